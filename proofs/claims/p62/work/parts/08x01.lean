/-- a bound that omega doesn't look into -/
def SL (a b : Nat) : Prop := a ≤ b
theorem sl_s {ss f K Z M : Nat} (h : SL (ss + ((f + 1) * K + Z)) M) : SL (ss + (K + (f * K + Z))) M := by
  unfold SL at h ⊢
  rw [Nat.succ_mul] at h
  generalize f * K = y at *
  omega
theorem sl_v {ss A R M E : Nat} (h : SL (ss + (A + R)) M) (q : E ≤ ss + A) : E ≤ M := by unfold SL at h; omega
theorem sl_w {ss A R M s' C : Nat} (h : SL (ss + (A + R)) M) (q : s' + C ≤ ss + A) : SL (s' + (C + R)) M := by unfold SL at h ⊢; omega
theorem sl_x {ss A R M s' : Nat} (h : SL (ss + (A + R)) M) (q : s' ≤ ss + A) : SL (s' + R) M := by unfold SL at h ⊢; omega
theorem sl_y {ss A R Z M T : Nat} (h : SL (ss + (A + (R + Z))) M) (q : T ≤ Z) : SL (ss + T) M := by unfold SL at h ⊢; omega
set_option maxHeartbeats 4000000 in
set_option maxRecDepth 100000 in
theorem c_L_text (l : Launch) (g : GP) (ad : Nat → Nat) (n : Nat) (K : Nat → Nat) (sz F : Nat) (S0 : St) (p0 : XS) (tp0 : p0 = gX g) (r9 : Nat) (S9 : St) (n9 : Nat) (hf : f_L_text F S0 n p0 = some (r9, S9, n9)) : Met l yL_text wsL_text { frames := 9, cells := 147, slots := 147528, locals := 200 } (va_Pc [.ref (gen g 98)] (PB g ad n K S0 sz)) (QA ad K n (fun a => some (.ref (sad g a r9))) g n9 S9 (dA ad n sz) (fun K9 => tS 18 n9 K9 r9)) 147 147528 (dA ad n sz) := by
  refine Met.ofW (cc := cL_text) (maxL := 3) (ret := (some (.object "java/lang/String"))) (by decide) rfl ?_
  intro p e s m args below meth c s₁ B hml hv
  obtain ⟨rfl, hsz, hW, hK, hGs⟩ := x_start hv
  subst hsz
  have hx := B.exec
  have hb := B.bytes
  have hr := B.returns
  have hts := atoms_spec (ws := wsL_text) B.pre
  have hown : s.vm.findClass RL = some m.cls := findClass_of_methodNamed B.named
  have hlk := B.notSynchronized
  have hC : Cx g p s m _ c cL_text RL wsL_text 3 := ⟨hx, hb, hml, hown, hts, hK⟩
  have hA : ∀ q : Nat, s.heap.size ≤ q → dA ad n s.heap.size q := fun q h => Or.inr h
  have hS : va_S (dA ad n s.heap.size) s.heap s.heap [] := va_S.rf
  have hl := lv_entry ([.ref (gen g 98)]) (n := 3) (Nat.le_of_ble_eq_true rfl)
  rw [lg_entry_eq]
  generalize (lg_sl ([.ref (gen g 98)]) ++ List.replicate (3 - (lg_sl ([.ref (gen g 98)])).length) Slot.unset).toArray = ls at hl ⊢
  have hl : lv_has ls 3 [(0, .ref (gen g 98))] := hl
  have hinJ4 : ∀ w ∈ wsJ40, w ∈ wsL_text := fun w h => List.mem_cons_of_mem _ (inlJ4 w h)
  have w_0 := hts (.classLink RL 51 RJ4) (by decide +kernel)
  have w_1 := hts (.instantiable RJ4 4) (by decide +kernel)
  have w_2 := hts (.initialized RJ4) (by decide +kernel)
  have w_3 := hts (.methodLink RL 55 yJ4_init_a7421) (by decide +kernel)
  have w_4 := hts (.instanceMethod yJ4_init_a7421) (by decide +kernel)
  have hGE := hGs.2.2.2.1
  have hGM := hGs.2.2.2.2
  have L223 : ∀ (fu223 : Nat) (adL KL : Nat → Nat) (nL : Nat) (hagL : Ag ad K n adL KL nL) (cs ss : Nat) (hcs : cs + (fu223 * 7 + 2) ≤ 147) (hss : SL (ss + (fu223 * 7168 + 1028)) 147528) (S0 : St) (v0 : XS) (v1 : Nat) (v2 : Int32) (tv0 : v0 = gX g) (tv1 : v1 < nL ∧ KL v1 = 10) (H : Heap) (locs : List Loc) (ls : Array Slot), f_L_text_L223 F fu223 S0 nL v0 v1 v2 = some (r9, S9, n9) → Wb g adL nL KL S0 (dA ad n s.heap.size) H → va_S (dA ad n s.heap.size) s.heap H locs → lv_has ls 3 [(0, .ref (gen g 98)), (1, .ref (adL v1)), (2, .int v2)] → W p l e (headSpec wsL_text { frames := 9, cells := 147, slots := 147528, locals := 200 }).room s m (List.toArray [.ref (gen g 98)]) below meth c H locs cs ss (MQ below (QA ad K n (fun a => some (.ref (sad g a r9))) g n9 S9 (dA ad n s.heap.size) (fun K9 => tS 18 n9 K9 r9)) (List.toArray [.ref (gen g 98)]) s 147 147528 (dA ad n s.heap.size)) (F0 m 223 ls []) := by
    intro fu223
    induction fu223 with
    | zero =>
      intro adL KL nL hagL cs ss hcs hss S0 v0 v1 v2 tv0 tv1 H locs ls hf
      cases hf
    | succ fu223 ih223 =>
      have L293 : ∀ (adL KL : Nat → Nat) (nL : Nat) (hagL : Ag ad K n adL KL nL) (cs ss : Nat) (hcs : cs + (1 + (fu223 * 7 + 2)) ≤ 147) (hss : SL (ss + (1024 + (fu223 * 7168 + 1028))) 147528) (S0 : St) (v0 : XS) (v1 : Nat) (v2 : Int32) (tv0 : v0 = gX g) (tv1 : v1 < nL ∧ KL v1 = 10) (H : Heap) (locs : List Loc) (ls : Array Slot), f_L_text_L293 F (fun a0 a1 a2 a3 a4 => f_L_text_L223 F fu223 a0 a1 a2 a3 a4) S0 nL v0 v1 v2 = some (r9, S9, n9) → Wb g adL nL KL S0 (dA ad n s.heap.size) H → va_S (dA ad n s.heap.size) s.heap H locs → lv_has ls 3 [(0, .ref (gen g 98)), (1, .ref (adL v1)), (2, .int v2)] → W p l e (headSpec wsL_text { frames := 9, cells := 147, slots := 147528, locals := 200 }).room s m (List.toArray [.ref (gen g 98)]) below meth c H locs cs ss (MQ below (QA ad K n (fun a => some (.ref (sad g a r9))) g n9 S9 (dA ad n s.heap.size) (fun K9 => tS 18 n9 K9 r9)) (List.toArray [.ref (gen g 98)]) s 147 147528 (dA ad n s.heap.size)) (F0 m 293 ls []) := by
        intro adL KL nL hagL cs ss hcs hss S0 v0 v1 v2 tv0 tv1 H locs ls hf hW hS hl
        unfold f_L_text_L293 at hf
        refine lv_aload_n hx hb dL_text_293 rfl (lv_at hl 1 rfl) ?_
        refine x_ldcM 2 (tx := ";") hC hGM ⟨rfl, by decide⟩ dL_text_294 ?_
        replace hf := obE hf
        obtain ⟨z13, hz13, hf⟩ := hf
        obtain ⟨r15, S14, n16⟩ := z13
        replace hf := ltE (ltE (ltE hf r15 rfl) S14 rfl) n16 rfl
        refine x_acallV (As := [.ref (sad g adL ((2 : Nat)))]) (rest := []) (S1 := S14) (n1 := n16) (o := (fun a => some (va_re a r15))) (P := (fun K9 => ∀ j, r15 = some j → j < n16 ∧ K9 j = 10)) hC hl.1 hW hS hGs hA tv1 rfl (show vwCl[10]? = some (RJ4, TJ4, 4) ∧ ob 10 from ⟨rfl, by decide⟩) (c_J4_append_15ec4 l g adL nL KL H.size F S0 v1 ((2 : Nat)) tv1 (tS_c (by decide)) r15 S14 n16 hz13) (cwV 1 hts gL_text_J4_append_15ec4 rfl rfl rfl (by decide +kernel) ⟨Nat.le_of_ble_eq_true rfl, Nat.le_of_ble_eq_true rfl⟩) rfl rfl (Nat.le_of_ble_eq_true rfl) dL_text_296 ⟨(show cs + 1 ≤ 147 by omega), (show ss + 1024 ≤ 147528 from sl_v hss (by omega))⟩ (fun ad17 K18 H locs hag19 hPz13 hW hS => ?_)
        have g20 := hag19.t tv1
        have g21 := hag19.e tv1 rfl
        have ag22 := (hagL).tr hag19
        refine W.widen (k := (cs + 1)) (n := (ss + 1024)) (by omega) (by omega) ?_
        replace hf := obE hf
        obtain ⟨j23, qj23, hf⟩ := hf
        have tj23 := hPz13 j23 qj23
        refine W.eq (g2 := F0 m 299 ls [.ref (ad17 j23)]) (by rw [qj23]; rfl) ?_
        refine lv_pop hx hb dL_text_299 rfl ?_
        obtain ⟨x24, ex24⟩ : ∃ z : Int32, z = v2 + 1 := ⟨_, rfl⟩
        replace hf := ltE hf x24 ex24
        refine lv_iinc (v := x24) (lv' := [(2, .int x24), (0, .ref (gen g 98)), (1, .ref (adL v1))]) hx hb dL_text_300 hl (k := 2) rfl (by rw [ex24]; rfl) (by decide) rfl (fun ls hl => ?_)
        refine lv_goto (tgt := 223) hx hb dL_text_303 (by decide) ?_
        exact ih223 ad17 K18 n16 ag22 (cs + 1) (ss + 1024) (by omega) (sl_x hss (by omega)) S14 v0 v1 x24 tv0 g20 _ _ _ hf hW hS (lv_sub hl [1, 2, 0] (by rw [g21] <;> rfl))
      have L278 : ∀ (adL KL : Nat → Nat) (nL : Nat) (hagL : Ag ad K n adL KL nL) (cs ss : Nat) (hcs : cs + (2 + (fu223 * 7 + 2)) ≤ 147) (hss : SL (ss + (2048 + (fu223 * 7168 + 1028))) 147528) (S0 : St) (v0 : XS) (v1 : Nat) (v2 : Int32) (tv0 : v0 = gX g) (tv1 : v1 < nL ∧ KL v1 = 10) (H : Heap) (locs : List Loc) (ls : Array Slot), f_L_text_L278 F (fun a0 a1 a2 a3 a4 => f_L_text_L223 F fu223 a0 a1 a2 a3 a4) S0 nL v0 v1 v2 = some (r9, S9, n9) → Wb g adL nL KL S0 (dA ad n s.heap.size) H → va_S (dA ad n s.heap.size) s.heap H locs → lv_has ls 3 [(0, .ref (gen g 98)), (1, .ref (adL v1)), (2, .int v2)] → W p l e (headSpec wsL_text { frames := 9, cells := 147, slots := 147528, locals := 200 }).room s m (List.toArray [.ref (gen g 98)]) below meth c H locs cs ss (MQ below (QA ad K n (fun a => some (.ref (sad g a r9))) g n9 S9 (dA ad n s.heap.size) (fun K9 => tS 18 n9 K9 r9)) (List.toArray [.ref (gen g 98)]) s 147 147528 (dA ad n s.heap.size)) (F0 m 278 ls []) := by
        intro adL KL nL hagL cs ss hcs hss S0 v0 v1 v2 tv0 tv1 H locs ls hf hW hS hl
        unfold f_L_text_L278 at hf
        refine lv_aload_n hx hb dL_text_278 rfl (lv_at hl 0 rfl) ?_
        refine lv_iload_n hx hb dL_text_279 rfl (lv_at hl 2 rfl) ?_
        replace hf := obE hf
        obtain ⟨z41, hz41, hf⟩ := hf
        obtain ⟨r43, S42⟩ := z41
        replace hf := ltE (ltE hf r43 rfl) S42 rfl
        refine x_callS (As := [.ref (gen g 98), .int v2]) (rest := []) (o := (some (.int r43))) (S1 := S42) hC hl.1 hW hS hGs hA (c_L_hasWord l g adL nL KL H.size F S0 v0 v2 tv0 r43 S42 hz41) (va_cwS 2 hts gL_text_L_hasWord rfl rfl rfl (by decide +kernel) ⟨Nat.le_of_ble_eq_true rfl, Nat.le_of_ble_eq_true rfl⟩) rfl rfl (Nat.le_of_ble_eq_true rfl) dL_text_280 ⟨show cs ≤ 147 by omega, show ss ≤ 147528 from sl_v hss (by omega)⟩ (fun H locs hPz41 hW hS => ?_)
        refine W.eq (g2 := F0 m 283 ls [.int r43]) rfl ?_
        refine lv_if_eq (tgt := 293) hx hb dL_text_283 (by decide) (fun c45 => ?_) (fun c45 => ?_)
        · replace hf := ifT c45 hf
          exact L293 adL KL nL hagL cs ss (by omega) (sl_w hss (by omega)) S42 v0 v1 v2 tv0 tv1 _ _ _ hf hW hS (lv_sub hl [0, 1, 2] rfl)
        · replace hf := ifF c45 hf
          refine lv_aload_n hx hb dL_text_286 rfl (lv_at hl 1 rfl) ?_
          refine x_ldcM 14 (tx := " word ab") hC hGM ⟨rfl, by decide⟩ dL_text_287 ?_
          replace hf := obE hf
          obtain ⟨z46, hz46, hf⟩ := hf
          obtain ⟨r48, S47, n49⟩ := z46
          replace hf := ltE (ltE (ltE hf r48 rfl) S47 rfl) n49 rfl
          refine x_acallV (As := [.ref (sad g adL ((14 : Nat)))]) (rest := []) (S1 := S47) (n1 := n49) (o := (fun a => some (va_re a r48))) (P := (fun K9 => ∀ j, r48 = some j → j < n49 ∧ K9 j = 10)) hC hl.1 hW hS hGs hA tv1 rfl (show vwCl[10]? = some (RJ4, TJ4, 4) ∧ ob 10 from ⟨rfl, by decide⟩) (c_J4_append_15ec4 l g adL nL KL H.size F S42 v1 ((14 : Nat)) tv1 (tS_c (by decide)) r48 S47 n49 hz46) (cwV 1 hts gL_text_J4_append_15ec4 rfl rfl rfl (by decide +kernel) ⟨Nat.le_of_ble_eq_true rfl, Nat.le_of_ble_eq_true rfl⟩) rfl rfl (Nat.le_of_ble_eq_true rfl) dL_text_289 ⟨(show cs + 1 ≤ 147 by omega), (show ss + 1024 ≤ 147528 from sl_v hss (by omega))⟩ (fun ad50 K51 H locs hag52 hPz46 hW hS => ?_)
          have g53 := hag52.t tv1
          have g54 := hag52.e tv1 rfl
          have ag55 := (hagL).tr hag52
          refine W.widen (k := (cs + 1)) (n := (ss + 1024)) (by omega) (by omega) ?_
          replace hf := obE hf
          obtain ⟨j56, qj56, hf⟩ := hf
          have tj56 := hPz46 j56 qj56
          refine W.eq (g2 := F0 m 292 ls [.ref (ad50 j56)]) (by rw [qj56]; rfl) ?_
          refine lv_pop hx hb dL_text_292 rfl ?_
          exact L293 ad50 K51 n49 ag55 (cs + 1) (ss + 1024) (by omega) (sl_w hss (by omega)) S47 v0 v1 v2 tv0 g53 _ _ _ hf hW hS (lv_sub hl [0, 1, 2] (by rw [g54] <;> rfl))
      intro adL KL nL hagL cs ss hcs hss S0 v0 v1 v2 tv0 tv1 H locs ls hf hW hS hl
      replace hss := sl_s hss
      unfold f_L_text_L223 at hf
      refine lv_iload_n hx hb dL_text_223 rfl (lv_at hl 2 rfl) ?_
      refine lv_aload_n hx hb dL_text_224 rfl (lv_at hl 0 rfl) ?_
      replace hf := obE hf
      obtain ⟨z136, hz136, hf⟩ := hf
      obtain ⟨r138, S137⟩ := z136
      replace hf := ltE (ltE hf r138 rfl) S137 rfl
      refine x_callS (As := [.ref (gen g 98)]) (rest := [.int v2]) (o := (some (.int r138))) (S1 := S137) hC hl.1 hW hS hGs hA (c_L_holds l g adL nL KL H.size F S0 v0 tv0 r138 S137 hz136) (va_cwS 1 hts gL_text_L_holds rfl rfl rfl (by decide +kernel) ⟨Nat.le_of_ble_eq_true rfl, Nat.le_of_ble_eq_true rfl⟩) rfl rfl (Nat.le_of_ble_eq_true rfl) dL_text_225 ⟨show cs ≤ 147 by omega, show ss ≤ 147528 from sl_v hss (by omega)⟩ (fun H locs hPz136 hW hS => ?_)
      refine W.eq (g2 := F0 m 228 ls [.int r138, .int v2]) rfl ?_
      refine lv_icmp_ge (tgt := 306) hx hb dL_text_228 (by decide) (fun c140 => ?_) (fun c140 => ?_)
      · replace hf := ifT c140 hf
        refine lv_aload_n hx hb dL_text_306 rfl (lv_at hl 1 rfl) ?_
        replace hf := obE hf
        obtain ⟨z141, hz141, hf⟩ := hf
        obtain ⟨r143, S142, n144⟩ := z141
        replace hf := ltE (ltE (ltE hf r143 rfl) S142 rfl) n144 rfl
        refine x_acallV (As := []) (rest := []) (S1 := S142) (n1 := n144) (o := (fun a => some (.ref (sad g a r143)))) (P := (fun K9 => tS 18 n144 K9 r143)) hC hl.1 hW hS hGs hA tv1 rfl (show vwCl[10]? = some (RJ4, TJ4, 4) ∧ ob 10 from ⟨rfl, by decide⟩) (c_J4_toString_0e30d l g adL nL KL H.size F S137 v1 tv1 r143 S142 n144 hz141) (cwV 0 hts gL_text_J4_toString_0e30d rfl rfl rfl (by decide +kernel) ⟨Nat.le_of_ble_eq_true rfl, Nat.le_of_ble_eq_true rfl⟩) rfl rfl (Nat.le_of_ble_eq_true rfl) dL_text_307 ⟨(show cs + 2 ≤ 147 by omega), (show ss + 1028 ≤ 147528 from sl_v hss (by omega))⟩ (fun ad145 K146 H locs hag147 hPz141 hW hS => ?_)
        have g148 := hag147.t tv1
        have g149 := hag147.e tv1 rfl
        have ag150 := (hagL).tr hag147
        refine W.widen (k := (cs + 2)) (n := (ss + 1028)) (by omega) (by omega) ?_
        refine W.eq (g2 := F0 m 310 ls [.ref ((sad g ad145 r143))]) rfl ?_
        obtain ⟨e1, e2, e3⟩ := so3 hf
        subst e1
        subst e2
        subst e3
        refine W.widen (k := 147) (n := 147528) (by omega) (sl_v hss (by omega)) ?_
        exact W.aret hx hb hr (Or.inl ⟨_, rfl⟩) (Or.inr ⟨_, rfl⟩) (fun t ht hWm => ⟨⟨ad145, K146, rfl, ag150, hPz141, by rw [ht]; exact hW⟩, hS.F ht⟩) hS.2.2 dL_text_310 hlk
      · replace hf := ifF c140 hf
        refine lv_aload_n hx hb dL_text_231 rfl (lv_at hl 1 rfl) ?_
        refine x_ldcM 11 (tx := "hold h") hC hGM ⟨rfl, by decide⟩ dL_text_232 ?_
        replace hf := obE hf
        obtain ⟨z151, hz151, hf⟩ := hf
        obtain ⟨r153, S152, n154⟩ := z151
        replace hf := ltE (ltE (ltE hf r153 rfl) S152 rfl) n154 rfl
        refine x_acallV (As := [.ref (sad g adL ((11 : Nat)))]) (rest := []) (S1 := S152) (n1 := n154) (o := (fun a => some (va_re a r153))) (P := (fun K9 => ∀ j, r153 = some j → j < n154 ∧ K9 j = 10)) hC hl.1 hW hS hGs hA tv1 rfl (show vwCl[10]? = some (RJ4, TJ4, 4) ∧ ob 10 from ⟨rfl, by decide⟩) (c_J4_append_15ec4 l g adL nL KL H.size F S137 v1 ((11 : Nat)) tv1 (tS_c (by decide)) r153 S152 n154 hz151) (cwV 1 hts gL_text_J4_append_15ec4 rfl rfl rfl (by decide +kernel) ⟨Nat.le_of_ble_eq_true rfl, Nat.le_of_ble_eq_true rfl⟩) rfl rfl (Nat.le_of_ble_eq_true rfl) dL_text_234 ⟨(show cs + 1 ≤ 147 by omega), (show ss + 1024 ≤ 147528 from sl_v hss (by omega))⟩ (fun ad155 K156 H locs hag157 hPz151 hW hS => ?_)
        have g158 := hag157.t tv1
        have g159 := hag157.e tv1 rfl
        have ag160 := (hagL).tr hag157
        refine W.widen (k := (cs + 1)) (n := (ss + 1024)) (by omega) (by omega) ?_
        replace hf := obE hf
        obtain ⟨j161, qj161, hf⟩ := hf
        have tj161 := hPz151 j161 qj161
        refine W.eq (g2 := F0 m 237 ls [.ref (ad155 j161)]) (by rw [qj161]; rfl) ?_
        refine lv_bipush (v := 97) hx hb dL_text_237 (by decide) ?_
        refine lv_iload_n hx hb dL_text_239 rfl (lv_at hl 2 rfl) ?_
        refine lv_iadd hx hb dL_text_240 ?_
        refine lv_i2c (v := ((97 + v2).toUInt32 % 65536).toInt32) hx hb dL_text_241 rfl ?_
        replace hf := obE hf
        obtain ⟨z162, hz162, hf⟩ := hf
        obtain ⟨r164, S163, n165⟩ := z162
        replace hf := ltE (ltE (ltE hf r164 rfl) S163 rfl) n165 rfl
        refine x_acallV (As := [.int (((97 + v2).toUInt32 % 65536).toInt32)]) (rest := []) (S1 := S163) (n1 := n165) (o := (fun a => some (va_re a r164))) (P := (fun K9 => ∀ j, r164 = some j → j < n165 ∧ K9 j = 10)) hC hl.1 hW hS hGs hA tj161 rfl (show vwCl[10]? = some (RJ4, TJ4, 4) ∧ ob 10 from ⟨rfl, by decide⟩) (c_J4_append_cf468 l g ad155 n154 K156 H.size F S152 j161 (((97 + v2).toUInt32 % 65536).toInt32) tj161 r164 S163 n165 hz162) (cwV 1 hts gL_text_J4_append_cf468 rfl rfl rfl (by decide +kernel) ⟨Nat.le_of_ble_eq_true rfl, Nat.le_of_ble_eq_true rfl⟩) rfl rfl (Nat.le_of_ble_eq_true rfl) dL_text_242 ⟨(show (cs + 1) + 1 ≤ 147 by omega), (show (ss + 1024) + 1024 ≤ 147528 from sl_v hss (by omega))⟩ (fun ad166 K167 H locs hag168 hPz162 hW hS => ?_)
        have g169 := hag168.t g158
        have g170 := hag168.e g158 g159
        have ag171 := (ag160).tr hag168
        refine W.widen (k := (cs + 2)) (n := (ss + 2048)) (by omega) (by omega) ?_
        replace hf := obE hf
        obtain ⟨j172, qj172, hf⟩ := hf
        have tj172 := hPz162 j172 qj172
        refine W.eq (g2 := F0 m 245 ls [.ref (ad166 j172)]) (by rw [qj172]; rfl) ?_
        refine x_ldcM 12 (tx := " user u") hC hGM ⟨rfl, by decide⟩ dL_text_245 ?_
        replace hf := obE hf
        obtain ⟨z173, hz173, hf⟩ := hf
        obtain ⟨r175, S174, n176⟩ := z173
        replace hf := ltE (ltE (ltE hf r175 rfl) S174 rfl) n176 rfl
        refine x_acallV (As := [.ref (sad g ad166 ((12 : Nat)))]) (rest := []) (S1 := S174) (n1 := n176) (o := (fun a => some (va_re a r175))) (P := (fun K9 => ∀ j, r175 = some j → j < n176 ∧ K9 j = 10)) hC hl.1 hW hS hGs hA tj172 rfl (show vwCl[10]? = some (RJ4, TJ4, 4) ∧ ob 10 from ⟨rfl, by decide⟩) (c_J4_append_15ec4 l g ad166 n165 K167 H.size F S163 j172 ((12 : Nat)) tj172 (tS_c (by decide)) r175 S174 n176 hz173) (cwV 1 hts gL_text_J4_append_15ec4 rfl rfl rfl (by decide +kernel) ⟨Nat.le_of_ble_eq_true rfl, Nat.le_of_ble_eq_true rfl⟩) rfl rfl (Nat.le_of_ble_eq_true rfl) dL_text_247 ⟨(show (cs + 2) + 1 ≤ 147 by omega), (show (ss + 2048) + 1024 ≤ 147528 from sl_v hss (by omega))⟩ (fun ad177 K178 H locs hag179 hPz173 hW hS => ?_)
        have g180 := hag179.t g169
        have g181 := hag179.e g169 g170
        have ag182 := (ag171).tr hag179
        refine W.widen (k := (cs + 3)) (n := (ss + 3072)) (by omega) (by omega) ?_
        replace hf := obE hf
        obtain ⟨j183, qj183, hf⟩ := hf
        have tj183 := hPz173 j183 qj183
        refine W.eq (g2 := F0 m 250 ls [.ref (ad177 j183)]) (by rw [qj183]; rfl) ?_
        refine lv_bipush (v := 97) hx hb dL_text_250 (by decide) ?_
        refine lv_aload_n hx hb dL_text_252 rfl (lv_at hl 0 rfl) ?_
        refine lv_iload_n hx hb dL_text_253 rfl (lv_at hl 2 rfl) ?_
        replace hf := obE hf
        obtain ⟨z184, hz184, hf⟩ := hf
        obtain ⟨r186, S185⟩ := z184
        replace hf := ltE (ltE hf r186 rfl) S185 rfl
        refine x_callS (As := [.ref (gen g 98), .int v2]) (rest := [.int 97, .ref (ad177 j183)]) (o := (some (.int r186))) (S1 := S185) hC hl.1 hW hS hGs hA (c_L_holder l g ad177 n176 K178 H.size F S174 v0 v2 tv0 r186 S185 hz184) (va_cwS 2 hts gL_text_L_holder rfl rfl rfl (by decide +kernel) ⟨Nat.le_of_ble_eq_true rfl, Nat.le_of_ble_eq_true rfl⟩) rfl rfl (Nat.le_of_ble_eq_true rfl) dL_text_254 ⟨show (cs + 3) ≤ 147 by omega, show (ss + 3072) ≤ 147528 from sl_v hss (by omega)⟩ (fun H locs hPz184 hW hS => ?_)
        refine W.eq (g2 := F0 m 257 ls [.int r186, .int 97, .ref (ad177 j183)]) rfl ?_
        refine lv_iadd hx hb dL_text_257 ?_
        refine lv_i2c (v := ((97 + r186).toUInt32 % 65536).toInt32) hx hb dL_text_258 rfl ?_
        replace hf := obE hf
        obtain ⟨z188, hz188, hf⟩ := hf
        obtain ⟨r190, S189, n191⟩ := z188
        replace hf := ltE (ltE (ltE hf r190 rfl) S189 rfl) n191 rfl
        refine x_acallV (As := [.int (((97 + r186).toUInt32 % 65536).toInt32)]) (rest := []) (S1 := S189) (n1 := n191) (o := (fun a => some (va_re a r190))) (P := (fun K9 => ∀ j, r190 = some j → j < n191 ∧ K9 j = 10)) hC hl.1 hW hS hGs hA tj183 rfl (show vwCl[10]? = some (RJ4, TJ4, 4) ∧ ob 10 from ⟨rfl, by decide⟩) (c_J4_append_cf468 l g ad177 n176 K178 H.size F S185 j183 (((97 + r186).toUInt32 % 65536).toInt32) tj183 r190 S189 n191 hz188) (cwV 1 hts gL_text_J4_append_cf468 rfl rfl rfl (by decide +kernel) ⟨Nat.le_of_ble_eq_true rfl, Nat.le_of_ble_eq_true rfl⟩) rfl rfl (Nat.le_of_ble_eq_true rfl) dL_text_259 ⟨(show (cs + 3) + 1 ≤ 147 by omega), (show (ss + 3072) + 1024 ≤ 147528 from sl_v hss (by omega))⟩ (fun ad192 K193 H locs hag194 hPz188 hW hS => ?_)
        have g195 := hag194.t g180
        have g196 := hag194.e g180 g181
        have ag197 := (ag182).tr hag194
        refine W.widen (k := (cs + 4)) (n := (ss + 4096)) (by omega) (by omega) ?_
        replace hf := obE hf
        obtain ⟨j198, qj198, hf⟩ := hf
        have tj198 := hPz188 j198 qj198
        refine W.eq (g2 := F0 m 262 ls [.ref (ad192 j198)]) (by rw [qj198]; rfl) ?_
        refine lv_pop hx hb dL_text_262 rfl ?_
        refine lv_aload_n hx hb dL_text_263 rfl (lv_at hl 0 rfl) ?_
        refine lv_iload_n hx hb dL_text_264 rfl (lv_at hl 2 rfl) ?_
        replace hf := obE hf
        obtain ⟨z199, hz199, hf⟩ := hf
        obtain ⟨r201, S200⟩ := z199
        replace hf := ltE (ltE hf r201 rfl) S200 rfl
        refine x_callS (As := [.ref (gen g 98), .int v2]) (rest := []) (o := (some (.int r201))) (S1 := S200) hC hl.1 hW hS hGs hA (c_L_hasDays l g ad192 n191 K193 H.size F S189 v0 v2 tv0 r201 S200 hz199) (va_cwS 2 hts gL_text_L_hasDays rfl rfl rfl (by decide +kernel) ⟨Nat.le_of_ble_eq_true rfl, Nat.le_of_ble_eq_true rfl⟩) rfl rfl (Nat.le_of_ble_eq_true rfl) dL_text_265 ⟨show (cs + 4) ≤ 147 by omega, show (ss + 4096) ≤ 147528 from sl_v hss (by omega)⟩ (fun H locs hPz199 hW hS => ?_)
        refine W.eq (g2 := F0 m 268 ls [.int r201]) rfl ?_
        refine lv_if_eq (tgt := 278) hx hb dL_text_268 (by decide) (fun c203 => ?_) (fun c203 => ?_)
        · replace hf := ifT c203 hf
          exact L278 ad192 K193 n191 ag197 (cs + 4) (ss + 4096) (by omega) (sl_w hss (by omega)) S200 v0 v1 v2 tv0 g195 _ _ _ hf hW hS (lv_sub hl [0, 1, 2] (by rw [g196] <;> rfl))
        · replace hf := ifF c203 hf
          refine lv_aload_n hx hb dL_text_271 rfl (lv_at hl 1 rfl) ?_
          refine x_ldcM 13 (tx := " from 0 to 3") hC hGM ⟨rfl, by decide⟩ dL_text_272 ?_
          replace hf := obE hf
          obtain ⟨z204, hz204, hf⟩ := hf
          obtain ⟨r206, S205, n207⟩ := z204
          replace hf := ltE (ltE (ltE hf r206 rfl) S205 rfl) n207 rfl
          refine x_acallV (As := [.ref (sad g ad192 ((13 : Nat)))]) (rest := []) (S1 := S205) (n1 := n207) (o := (fun a => some (va_re a r206))) (P := (fun K9 => ∀ j, r206 = some j → j < n207 ∧ K9 j = 10)) hC hl.1 hW hS hGs hA g195 rfl (show vwCl[10]? = some (RJ4, TJ4, 4) ∧ ob 10 from ⟨rfl, by decide⟩) (c_J4_append_15ec4 l g ad192 n191 K193 H.size F S200 v1 ((13 : Nat)) g195 (tS_c (by decide)) r206 S205 n207 hz204) (cwV 1 hts gL_text_J4_append_15ec4 rfl rfl rfl (by decide +kernel) ⟨Nat.le_of_ble_eq_true rfl, Nat.le_of_ble_eq_true rfl⟩) rfl (by rw [g196] <;> rfl) (Nat.le_of_ble_eq_true rfl) dL_text_274 ⟨(show (cs + 4) + 1 ≤ 147 by omega), (show (ss + 4096) + 1024 ≤ 147528 from sl_v hss (by omega))⟩ (fun ad208 K209 H locs hag210 hPz204 hW hS => ?_)
          have g211 := hag210.t g195
          have g212 := hag210.e g195 g196
          have ag213 := (ag197).tr hag210
          refine W.widen (k := (cs + 5)) (n := (ss + 5120)) (by omega) (by omega) ?_
          replace hf := obE hf
          obtain ⟨j214, qj214, hf⟩ := hf
          have tj214 := hPz204 j214 qj214
          refine W.eq (g2 := F0 m 277 ls [.ref (ad208 j214)]) (by rw [qj214]; rfl) ?_
          refine lv_pop hx hb dL_text_277 rfl ?_
          exact L278 ad208 K209 n207 ag213 (cs + 5) (ss + 5120) (by omega) (sl_w hss (by omega)) S205 v0 v1 v2 tv0 g211 _ _ _ hf hW hS (lv_sub hl [0, 1, 2] (by rw [g212] <;> rfl))
  have L157 : ∀ (fu157 : Nat) (adL KL : Nat → Nat) (nL : Nat) (hagL : Ag ad K n adL KL nL) (cs ss : Nat) (hcs : cs + (fu157 * 7 + 44) ≤ 147) (hss : SL (ss + (fu157 * 7168 + 44036)) 147528) (S0 : St) (v0 : XS) (v1 : Nat) (v2 : Int32) (tv0 : v0 = gX g) (tv1 : v1 < nL ∧ KL v1 = 10) (H : Heap) (locs : List Loc) (ls : Array Slot), f_L_text_L157 F fu157 S0 nL v0 v1 v2 = some (r9, S9, n9) → Wb g adL nL KL S0 (dA ad n s.heap.size) H → va_S (dA ad n s.heap.size) s.heap H locs → lv_has ls 3 [(0, .ref (gen g 98)), (1, .ref (adL v1)), (2, .int v2)] → W p l e (headSpec wsL_text { frames := 9, cells := 147, slots := 147528, locals := 200 }).room s m (List.toArray [.ref (gen g 98)]) below meth c H locs cs ss (MQ below (QA ad K n (fun a => some (.ref (sad g a r9))) g n9 S9 (dA ad n s.heap.size) (fun K9 => tS 18 n9 K9 r9)) (List.toArray [.ref (gen g 98)]) s 147 147528 (dA ad n s.heap.size)) (F0 m 157 ls []) := by
    intro fu157
    induction fu157 with
    | zero =>
      intro adL KL nL hagL cs ss hcs hss S0 v0 v1 v2 tv0 tv1 H locs ls hf
      cases hf
    | succ fu157 ih157 =>
      intro adL KL nL hagL cs ss hcs hss S0 v0 v1 v2 tv0 tv1 H locs ls hf hW hS hl
      replace hss := sl_s hss
      unfold f_L_text_L157 at hf
      refine lv_iload_n hx hb dL_text_157 rfl (lv_at hl 2 rfl) ?_
      refine lv_aload_n hx hb dL_text_158 rfl (lv_at hl 0 rfl) ?_
      replace hf := obE hf
      obtain ⟨z306, hz306, hf⟩ := hf
      obtain ⟨r308, S307⟩ := z306
      replace hf := ltE (ltE hf r308 rfl) S307 rfl
      refine x_callS (As := [.ref (gen g 98)]) (rest := [.int v2]) (o := (some (.int r308))) (S1 := S307) hC hl.1 hW hS hGs hA (c_L_users l g adL nL KL H.size F S0 v0 tv0 r308 S307 hz306) (va_cwS 1 hts gL_text_L_users rfl rfl rfl (by decide +kernel) ⟨Nat.le_of_ble_eq_true rfl, Nat.le_of_ble_eq_true rfl⟩) rfl rfl (Nat.le_of_ble_eq_true rfl) dL_text_159 ⟨show cs ≤ 147 by omega, show ss ≤ 147528 from sl_v hss (by omega)⟩ (fun H locs hPz306 hW hS => ?_)
      refine W.eq (g2 := F0 m 162 ls [.int r308, .int v2]) rfl ?_
      refine lv_icmp_ge (tgt := 221) hx hb dL_text_162 (by decide) (fun c310 => ?_) (fun c310 => ?_)
      · replace hf := ifT c310 hf
        refine lv_iconst (v := 0) hx hb dL_text_221 (by decide) ?_
        refine lv_istore_n (lv' := [(2, .int 0), (0, .ref (gen g 98)), (1, .ref (adL v1))]) hx hb dL_text_222 rfl hl (by decide) rfl (fun ls hl => ?_)
        exact L223 6 adL KL nL hagL cs ss (by omega) (sl_y hss (Nat.le_of_ble_eq_true rfl)) S307 v0 v1 0 tv0 tv1 _ _ _ hf hW hS (lv_sub hl [1, 2, 0] rfl)
      · replace hf := ifF c310 hf
        refine lv_aload_n hx hb dL_text_165 rfl (lv_at hl 1 rfl) ?_
        refine x_ldcM 8 (tx := "user u") hC hGM ⟨rfl, by decide⟩ dL_text_166 ?_
        replace hf := obE hf
        obtain ⟨z311, hz311, hf⟩ := hf
        obtain ⟨r313, S312, n314⟩ := z311
        replace hf := ltE (ltE (ltE hf r313 rfl) S312 rfl) n314 rfl
        refine x_acallV (As := [.ref (sad g adL ((8 : Nat)))]) (rest := []) (S1 := S312) (n1 := n314) (o := (fun a => some (va_re a r313))) (P := (fun K9 => ∀ j, r313 = some j → j < n314 ∧ K9 j = 10)) hC hl.1 hW hS hGs hA tv1 rfl (show vwCl[10]? = some (RJ4, TJ4, 4) ∧ ob 10 from ⟨rfl, by decide⟩) (c_J4_append_15ec4 l g adL nL KL H.size F S307 v1 ((8 : Nat)) tv1 (tS_c (by decide)) r313 S312 n314 hz311) (cwV 1 hts gL_text_J4_append_15ec4 rfl rfl rfl (by decide +kernel) ⟨Nat.le_of_ble_eq_true rfl, Nat.le_of_ble_eq_true rfl⟩) rfl rfl (Nat.le_of_ble_eq_true rfl) dL_text_168 ⟨(show cs + 1 ≤ 147 by omega), (show ss + 1024 ≤ 147528 from sl_v hss (by omega))⟩ (fun ad315 K316 H locs hag317 hPz311 hW hS => ?_)
        have g318 := hag317.t tv1
        have g319 := hag317.e tv1 rfl
        have ag320 := (hagL).tr hag317
        refine W.widen (k := (cs + 1)) (n := (ss + 1024)) (by omega) (by omega) ?_
        replace hf := obE hf
        obtain ⟨j321, qj321, hf⟩ := hf
        have tj321 := hPz311 j321 qj321
        refine W.eq (g2 := F0 m 171 ls [.ref (ad315 j321)]) (by rw [qj321]; rfl) ?_
        refine lv_bipush (v := 97) hx hb dL_text_171 (by decide) ?_
        refine lv_iload_n hx hb dL_text_173 rfl (lv_at hl 2 rfl) ?_
        refine lv_iadd hx hb dL_text_174 ?_
        refine lv_i2c (v := ((97 + v2).toUInt32 % 65536).toInt32) hx hb dL_text_175 rfl ?_
        replace hf := obE hf
        obtain ⟨z322, hz322, hf⟩ := hf
        obtain ⟨r324, S323, n325⟩ := z322
        replace hf := ltE (ltE (ltE hf r324 rfl) S323 rfl) n325 rfl
        refine x_acallV (As := [.int (((97 + v2).toUInt32 % 65536).toInt32)]) (rest := []) (S1 := S323) (n1 := n325) (o := (fun a => some (va_re a r324))) (P := (fun K9 => ∀ j, r324 = some j → j < n325 ∧ K9 j = 10)) hC hl.1 hW hS hGs hA tj321 rfl (show vwCl[10]? = some (RJ4, TJ4, 4) ∧ ob 10 from ⟨rfl, by decide⟩) (c_J4_append_cf468 l g ad315 n314 K316 H.size F S312 j321 (((97 + v2).toUInt32 % 65536).toInt32) tj321 r324 S323 n325 hz322) (cwV 1 hts gL_text_J4_append_cf468 rfl rfl rfl (by decide +kernel) ⟨Nat.le_of_ble_eq_true rfl, Nat.le_of_ble_eq_true rfl⟩) rfl rfl (Nat.le_of_ble_eq_true rfl) dL_text_176 ⟨(show (cs + 1) + 1 ≤ 147 by omega), (show (ss + 1024) + 1024 ≤ 147528 from sl_v hss (by omega))⟩ (fun ad326 K327 H locs hag328 hPz322 hW hS => ?_)
        have g329 := hag328.t g318
        have g330 := hag328.e g318 g319
        have ag331 := (ag320).tr hag328
        refine W.widen (k := (cs + 2)) (n := (ss + 2048)) (by omega) (by omega) ?_
        replace hf := obE hf
        obtain ⟨j332, qj332, hf⟩ := hf
        have tj332 := hPz322 j332 qj332
        refine W.eq (g2 := F0 m 179 ls [.ref (ad326 j332)]) (by rw [qj332]; rfl) ?_
        refine x_ldcM 9 (tx := " class c") hC hGM ⟨rfl, by decide⟩ dL_text_179 ?_
        replace hf := obE hf
        obtain ⟨z333, hz333, hf⟩ := hf
        obtain ⟨r335, S334, n336⟩ := z333
        replace hf := ltE (ltE (ltE hf r335 rfl) S334 rfl) n336 rfl
        refine x_acallV (As := [.ref (sad g ad326 ((9 : Nat)))]) (rest := []) (S1 := S334) (n1 := n336) (o := (fun a => some (va_re a r335))) (P := (fun K9 => ∀ j, r335 = some j → j < n336 ∧ K9 j = 10)) hC hl.1 hW hS hGs hA tj332 rfl (show vwCl[10]? = some (RJ4, TJ4, 4) ∧ ob 10 from ⟨rfl, by decide⟩) (c_J4_append_15ec4 l g ad326 n325 K327 H.size F S323 j332 ((9 : Nat)) tj332 (tS_c (by decide)) r335 S334 n336 hz333) (cwV 1 hts gL_text_J4_append_15ec4 rfl rfl rfl (by decide +kernel) ⟨Nat.le_of_ble_eq_true rfl, Nat.le_of_ble_eq_true rfl⟩) rfl rfl (Nat.le_of_ble_eq_true rfl) dL_text_181 ⟨(show (cs + 2) + 1 ≤ 147 by omega), (show (ss + 2048) + 1024 ≤ 147528 from sl_v hss (by omega))⟩ (fun ad337 K338 H locs hag339 hPz333 hW hS => ?_)
        have g340 := hag339.t g329
        have g341 := hag339.e g329 g330
        have ag342 := (ag331).tr hag339
        refine W.widen (k := (cs + 3)) (n := (ss + 3072)) (by omega) (by omega) ?_
        replace hf := obE hf
        obtain ⟨j343, qj343, hf⟩ := hf
        have tj343 := hPz333 j343 qj343
        refine W.eq (g2 := F0 m 184 ls [.ref (ad337 j343)]) (by rw [qj343]; rfl) ?_
        refine lv_bipush (v := 97) hx hb dL_text_184 (by decide) ?_
        refine lv_aload_n hx hb dL_text_186 rfl (lv_at hl 0 rfl) ?_
        refine lv_iload_n hx hb dL_text_187 rfl (lv_at hl 2 rfl) ?_
        replace hf := obE hf
        obtain ⟨z344, hz344, hf⟩ := hf
        obtain ⟨r346, S345⟩ := z344
        replace hf := ltE (ltE hf r346 rfl) S345 rfl
        refine x_callS (As := [.ref (gen g 98), .int v2]) (rest := [.int 97, .ref (ad337 j343)]) (o := (some (.int r346))) (S1 := S345) hC hl.1 hW hS hGs hA (c_L_classOf l g ad337 n336 K338 H.size F S334 v0 v2 tv0 r346 S345 hz344) (va_cwS 2 hts gL_text_L_classOf rfl rfl rfl (by decide +kernel) ⟨Nat.le_of_ble_eq_true rfl, Nat.le_of_ble_eq_true rfl⟩) rfl rfl (Nat.le_of_ble_eq_true rfl) dL_text_188 ⟨show (cs + 3) ≤ 147 by omega, show (ss + 3072) ≤ 147528 from sl_v hss (by omega)⟩ (fun H locs hPz344 hW hS => ?_)
        refine W.eq (g2 := F0 m 191 ls [.int r346, .int 97, .ref (ad337 j343)]) rfl ?_
        refine lv_iadd hx hb dL_text_191 ?_
        refine lv_i2c (v := ((97 + r346).toUInt32 % 65536).toInt32) hx hb dL_text_192 rfl ?_
        replace hf := obE hf
        obtain ⟨z348, hz348, hf⟩ := hf
        obtain ⟨r350, S349, n351⟩ := z348
        replace hf := ltE (ltE (ltE hf r350 rfl) S349 rfl) n351 rfl
        refine x_acallV (As := [.int (((97 + r346).toUInt32 % 65536).toInt32)]) (rest := []) (S1 := S349) (n1 := n351) (o := (fun a => some (va_re a r350))) (P := (fun K9 => ∀ j, r350 = some j → j < n351 ∧ K9 j = 10)) hC hl.1 hW hS hGs hA tj343 rfl (show vwCl[10]? = some (RJ4, TJ4, 4) ∧ ob 10 from ⟨rfl, by decide⟩) (c_J4_append_cf468 l g ad337 n336 K338 H.size F S345 j343 (((97 + r346).toUInt32 % 65536).toInt32) tj343 r350 S349 n351 hz348) (cwV 1 hts gL_text_J4_append_cf468 rfl rfl rfl (by decide +kernel) ⟨Nat.le_of_ble_eq_true rfl, Nat.le_of_ble_eq_true rfl⟩) rfl rfl (Nat.le_of_ble_eq_true rfl) dL_text_193 ⟨(show (cs + 3) + 1 ≤ 147 by omega), (show (ss + 3072) + 1024 ≤ 147528 from sl_v hss (by omega))⟩ (fun ad352 K353 H locs hag354 hPz348 hW hS => ?_)
        have g355 := hag354.t g340
        have g356 := hag354.e g340 g341
        have ag357 := (ag342).tr hag354
        refine W.widen (k := (cs + 4)) (n := (ss + 4096)) (by omega) (by omega) ?_
        replace hf := obE hf
        obtain ⟨j358, qj358, hf⟩ := hf
        have tj358 := hPz348 j358 qj358
        refine W.eq (g2 := F0 m 196 ls [.ref (ad352 j358)]) (by rw [qj358]; rfl) ?_
        refine x_ldcM 10 (tx := " quota ") hC hGM ⟨rfl, by decide⟩ dL_text_196 ?_
        replace hf := obE hf
        obtain ⟨z359, hz359, hf⟩ := hf
        obtain ⟨r361, S360, n362⟩ := z359
        replace hf := ltE (ltE (ltE hf r361 rfl) S360 rfl) n362 rfl
        refine x_acallV (As := [.ref (sad g ad352 ((10 : Nat)))]) (rest := []) (S1 := S360) (n1 := n362) (o := (fun a => some (va_re a r361))) (P := (fun K9 => ∀ j, r361 = some j → j < n362 ∧ K9 j = 10)) hC hl.1 hW hS hGs hA tj358 rfl (show vwCl[10]? = some (RJ4, TJ4, 4) ∧ ob 10 from ⟨rfl, by decide⟩) (c_J4_append_15ec4 l g ad352 n351 K353 H.size F S349 j358 ((10 : Nat)) tj358 (tS_c (by decide)) r361 S360 n362 hz359) (cwV 1 hts gL_text_J4_append_15ec4 rfl rfl rfl (by decide +kernel) ⟨Nat.le_of_ble_eq_true rfl, Nat.le_of_ble_eq_true rfl⟩) rfl rfl (Nat.le_of_ble_eq_true rfl) dL_text_198 ⟨(show (cs + 4) + 1 ≤ 147 by omega), (show (ss + 4096) + 1024 ≤ 147528 from sl_v hss (by omega))⟩ (fun ad363 K364 H locs hag365 hPz359 hW hS => ?_)
        have g366 := hag365.t g355
        have g367 := hag365.e g355 g356
        have ag368 := (ag357).tr hag365
        refine W.widen (k := (cs + 5)) (n := (ss + 5120)) (by omega) (by omega) ?_
        replace hf := obE hf
        obtain ⟨j369, qj369, hf⟩ := hf
        have tj369 := hPz359 j369 qj369
        refine W.eq (g2 := F0 m 201 ls [.ref (ad363 j369)]) (by rw [qj369]; rfl) ?_
        refine lv_aload_n hx hb dL_text_201 rfl (lv_at hl 0 rfl) ?_
        refine lv_iload_n hx hb dL_text_202 rfl (lv_at hl 2 rfl) ?_
        replace hf := obE hf
        obtain ⟨z370, hz370, hf⟩ := hf
        obtain ⟨r372, S371⟩ := z370
        replace hf := ltE (ltE hf r372 rfl) S371 rfl
        refine x_callS (As := [.ref (gen g 98), .int v2]) (rest := [.ref (ad363 j369)]) (o := (some (.int r372))) (S1 := S371) hC hl.1 hW hS hGs hA (c_L_quota l g ad363 n362 K364 H.size F S360 v0 v2 tv0 r372 S371 hz370) (va_cwS 2 hts gL_text_L_quota rfl rfl rfl (by decide +kernel) ⟨Nat.le_of_ble_eq_true rfl, Nat.le_of_ble_eq_true rfl⟩) rfl rfl (Nat.le_of_ble_eq_true rfl) dL_text_203 ⟨show (cs + 5) ≤ 147 by omega, show (ss + 5120) ≤ 147528 from sl_v hss (by omega)⟩ (fun H locs hPz370 hW hS => ?_)
        refine W.eq (g2 := F0 m 206 ls [.int r372, .ref (ad363 j369)]) rfl ?_
        replace hf := obE hf
        obtain ⟨z374, hz374, hf⟩ := hf
        obtain ⟨r376, S375, n377⟩ := z374
        replace hf := ltE (ltE (ltE hf r376 rfl) S375 rfl) n377 rfl
        refine x_acallV (As := [.int r372]) (rest := []) (S1 := S375) (n1 := n377) (o := (fun a => some (va_re a r376))) (P := (fun K9 => ∀ j, r376 = some j → j < n377 ∧ K9 j = 10)) hC hl.1 hW hS hGs hA tj369 rfl (show vwCl[10]? = some (RJ4, TJ4, 4) ∧ ob 10 from ⟨rfl, by decide⟩) (c_J4_append_bf812 l g ad363 n362 K364 H.size F S371 j369 r372 tj369 r376 S375 n377 hz374) (cwV 1 hts gL_text_J4_append_bf812 rfl rfl rfl (by decide +kernel) ⟨Nat.le_of_ble_eq_true rfl, Nat.le_of_ble_eq_true rfl⟩) rfl rfl (Nat.le_of_ble_eq_true rfl) dL_text_206 ⟨(show (cs + 5) + 1 ≤ 147 by omega), (show (ss + 5120) + 1024 ≤ 147528 from sl_v hss (by omega))⟩ (fun ad378 K379 H locs hag380 hPz374 hW hS => ?_)
        have g381 := hag380.t g366
        have g382 := hag380.e g366 g367
        have ag383 := (ag368).tr hag380
        refine W.widen (k := (cs + 6)) (n := (ss + 6144)) (by omega) (by omega) ?_
        replace hf := obE hf
        obtain ⟨j384, qj384, hf⟩ := hf
        have tj384 := hPz374 j384 qj384
        refine W.eq (g2 := F0 m 209 ls [.ref (ad378 j384)]) (by rw [qj384]; rfl) ?_
        refine x_ldcM 2 (tx := ";") hC hGM ⟨rfl, by decide⟩ dL_text_209 ?_
        replace hf := obE hf
        obtain ⟨z385, hz385, hf⟩ := hf
        obtain ⟨r387, S386, n388⟩ := z385
        replace hf := ltE (ltE (ltE hf r387 rfl) S386 rfl) n388 rfl
        refine x_acallV (As := [.ref (sad g ad378 ((2 : Nat)))]) (rest := []) (S1 := S386) (n1 := n388) (o := (fun a => some (va_re a r387))) (P := (fun K9 => ∀ j, r387 = some j → j < n388 ∧ K9 j = 10)) hC hl.1 hW hS hGs hA tj384 rfl (show vwCl[10]? = some (RJ4, TJ4, 4) ∧ ob 10 from ⟨rfl, by decide⟩) (c_J4_append_15ec4 l g ad378 n377 K379 H.size F S375 j384 ((2 : Nat)) tj384 (tS_c (by decide)) r387 S386 n388 hz385) (cwV 1 hts gL_text_J4_append_15ec4 rfl rfl rfl (by decide +kernel) ⟨Nat.le_of_ble_eq_true rfl, Nat.le_of_ble_eq_true rfl⟩) rfl rfl (Nat.le_of_ble_eq_true rfl) dL_text_211 ⟨(show (cs + 6) + 1 ≤ 147 by omega), (show (ss + 6144) + 1024 ≤ 147528 from sl_v hss (by omega))⟩ (fun ad389 K390 H locs hag391 hPz385 hW hS => ?_)
        have g392 := hag391.t g381
        have g393 := hag391.e g381 g382
        have ag394 := (ag383).tr hag391
        refine W.widen (k := (cs + 7)) (n := (ss + 7168)) (by omega) (by omega) ?_
        replace hf := obE hf
        obtain ⟨j395, qj395, hf⟩ := hf
        have tj395 := hPz385 j395 qj395
        refine W.eq (g2 := F0 m 214 ls [.ref (ad389 j395)]) (by rw [qj395]; rfl) ?_
        refine lv_pop hx hb dL_text_214 rfl ?_
        obtain ⟨x396, ex396⟩ : ∃ z : Int32, z = v2 + 1 := ⟨_, rfl⟩
        replace hf := ltE hf x396 ex396
        refine lv_iinc (v := x396) (lv' := [(2, .int x396), (0, .ref (gen g 98)), (1, .ref (adL v1))]) hx hb dL_text_215 hl (k := 2) rfl (by rw [ex396]; rfl) (by decide) rfl (fun ls hl => ?_)
        refine lv_goto (tgt := 157) hx hb dL_text_218 (by decide) ?_
        exact ih157 ad389 K390 n388 ag394 (cs + 7) (ss + 7168) (by omega) (sl_x hss (by omega)) S386 v0 v1 x396 tv0 g392 _ _ _ hf hW hS (lv_sub hl [1, 2, 0] (by rw [g393] <;> rfl))
  have L36 : ∀ (fu36 : Nat) (adL KL : Nat → Nat) (nL : Nat) (hagL : Ag ad K n adL KL nL) (cs ss : Nat) (hcs : cs + (fu36 * 9 + 86) ≤ 147) (hss : SL (ss + (fu36 * 9216 + 87044)) 147528) (S0 : St) (v0 : XS) (v1 : Nat) (v2 : Int32) (tv0 : v0 = gX g) (tv1 : v1 < nL ∧ KL v1 = 10) (H : Heap) (locs : List Loc) (ls : Array Slot), f_L_text_L36 F fu36 S0 nL v0 v1 v2 = some (r9, S9, n9) → Wb g adL nL KL S0 (dA ad n s.heap.size) H → va_S (dA ad n s.heap.size) s.heap H locs → lv_has ls 3 [(0, .ref (gen g 98)), (1, .ref (adL v1)), (2, .int v2)] → W p l e (headSpec wsL_text { frames := 9, cells := 147, slots := 147528, locals := 200 }).room s m (List.toArray [.ref (gen g 98)]) below meth c H locs cs ss (MQ below (QA ad K n (fun a => some (.ref (sad g a r9))) g n9 S9 (dA ad n s.heap.size) (fun K9 => tS 18 n9 K9 r9)) (List.toArray [.ref (gen g 98)]) s 147 147528 (dA ad n s.heap.size)) (F0 m 36 ls []) := by
    intro fu36
    induction fu36 with
    | zero =>
      intro adL KL nL hagL cs ss hcs hss S0 v0 v1 v2 tv0 tv1 H locs ls hf
      cases hf
    | succ fu36 ih36 =>
      have L142 : ∀ (adL KL : Nat → Nat) (nL : Nat) (hagL : Ag ad K n adL KL nL) (cs ss : Nat) (hcs : cs + (1 + (fu36 * 9 + 86)) ≤ 147) (hss : SL (ss + (1024 + (fu36 * 9216 + 87044))) 147528) (S0 : St) (v0 : XS) (v1 : Nat) (v2 : Int32) (tv0 : v0 = gX g) (tv1 : v1 < nL ∧ KL v1 = 10) (H : Heap) (locs : List Loc) (ls : Array Slot), f_L_text_L142 F (fun a0 a1 a2 a3 a4 => f_L_text_L36 F fu36 a0 a1 a2 a3 a4) S0 nL v0 v1 v2 = some (r9, S9, n9) → Wb g adL nL KL S0 (dA ad n s.heap.size) H → va_S (dA ad n s.heap.size) s.heap H locs → lv_has ls 3 [(0, .ref (gen g 98)), (1, .ref (adL v1)), (2, .int v2)] → W p l e (headSpec wsL_text { frames := 9, cells := 147, slots := 147528, locals := 200 }).room s m (List.toArray [.ref (gen g 98)]) below meth c H locs cs ss (MQ below (QA ad K n (fun a => some (.ref (sad g a r9))) g n9 S9 (dA ad n s.heap.size) (fun K9 => tS 18 n9 K9 r9)) (List.toArray [.ref (gen g 98)]) s 147 147528 (dA ad n s.heap.size)) (F0 m 142 ls []) := by
        intro adL KL nL hagL cs ss hcs hss S0 v0 v1 v2 tv0 tv1 H locs ls hf hW hS hl
        unfold f_L_text_L142 at hf
        refine lv_aload_n hx hb dL_text_142 rfl (lv_at hl 1 rfl) ?_
        refine x_ldcM 2 (tx := ";") hC hGM ⟨rfl, by decide⟩ dL_text_143 ?_
        replace hf := obE hf
        obtain ⟨z409, hz409, hf⟩ := hf
        obtain ⟨r411, S410, n412⟩ := z409
        replace hf := ltE (ltE (ltE hf r411 rfl) S410 rfl) n412 rfl
        refine x_acallV (As := [.ref (sad g adL ((2 : Nat)))]) (rest := []) (S1 := S410) (n1 := n412) (o := (fun a => some (va_re a r411))) (P := (fun K9 => ∀ j, r411 = some j → j < n412 ∧ K9 j = 10)) hC hl.1 hW hS hGs hA tv1 rfl (show vwCl[10]? = some (RJ4, TJ4, 4) ∧ ob 10 from ⟨rfl, by decide⟩) (c_J4_append_15ec4 l g adL nL KL H.size F S0 v1 ((2 : Nat)) tv1 (tS_c (by decide)) r411 S410 n412 hz409) (cwV 1 hts gL_text_J4_append_15ec4 rfl rfl rfl (by decide +kernel) ⟨Nat.le_of_ble_eq_true rfl, Nat.le_of_ble_eq_true rfl⟩) rfl rfl (Nat.le_of_ble_eq_true rfl) dL_text_145 ⟨(show cs + 1 ≤ 147 by omega), (show ss + 1024 ≤ 147528 from sl_v hss (by omega))⟩ (fun ad413 K414 H locs hag415 hPz409 hW hS => ?_)
        have g416 := hag415.t tv1
        have g417 := hag415.e tv1 rfl
        have ag418 := (hagL).tr hag415
        refine W.widen (k := (cs + 1)) (n := (ss + 1024)) (by omega) (by omega) ?_
        replace hf := obE hf
        obtain ⟨j419, qj419, hf⟩ := hf
        have tj419 := hPz409 j419 qj419
        refine W.eq (g2 := F0 m 148 ls [.ref (ad413 j419)]) (by rw [qj419]; rfl) ?_
        refine lv_pop hx hb dL_text_148 rfl ?_
        obtain ⟨x420, ex420⟩ : ∃ z : Int32, z = v2 + 1 := ⟨_, rfl⟩
        replace hf := ltE hf x420 ex420
        refine lv_iinc (v := x420) (lv' := [(2, .int x420), (0, .ref (gen g 98)), (1, .ref (adL v1))]) hx hb dL_text_149 hl (k := 2) rfl (by rw [ex420]; rfl) (by decide) rfl (fun ls hl => ?_)
        refine lv_goto (tgt := 36) hx hb dL_text_152 (by decide) ?_
        exact ih36 ad413 K414 n412 ag418 (cs + 1) (ss + 1024) (by omega) (sl_x hss (by omega)) S410 v0 v1 x420 tv0 g416 _ _ _ hf hW hS (lv_sub hl [1, 2, 0] (by rw [g417] <;> rfl))
      have L115 : ∀ (adL KL : Nat → Nat) (nL : Nat) (hagL : Ag ad K n adL KL nL) (cs ss : Nat) (hcs : cs + (3 + (fu36 * 9 + 86)) ≤ 147) (hss : SL (ss + (3072 + (fu36 * 9216 + 87044))) 147528) (S0 : St) (v0 : XS) (v1 : Nat) (v2 : Int32) (tv0 : v0 = gX g) (tv1 : v1 < nL ∧ KL v1 = 10) (H : Heap) (locs : List Loc) (ls : Array Slot), f_L_text_L115 F (fun a0 a1 a2 a3 a4 => f_L_text_L36 F fu36 a0 a1 a2 a3 a4) S0 nL v0 v1 v2 = some (r9, S9, n9) → Wb g adL nL KL S0 (dA ad n s.heap.size) H → va_S (dA ad n s.heap.size) s.heap H locs → lv_has ls 3 [(0, .ref (gen g 98)), (1, .ref (adL v1)), (2, .int v2)] → W p l e (headSpec wsL_text { frames := 9, cells := 147, slots := 147528, locals := 200 }).room s m (List.toArray [.ref (gen g 98)]) below meth c H locs cs ss (MQ below (QA ad K n (fun a => some (.ref (sad g a r9))) g n9 S9 (dA ad n s.heap.size) (fun K9 => tS 18 n9 K9 r9)) (List.toArray [.ref (gen g 98)]) s 147 147528 (dA ad n s.heap.size)) (F0 m 115 ls []) := by
        intro adL KL nL hagL cs ss hcs hss S0 v0 v1 v2 tv0 tv1 H locs ls hf hW hS hl
        unfold f_L_text_L115 at hf
        refine lv_aload_n hx hb dL_text_115 rfl (lv_at hl 0 rfl) ?_
        refine lv_iload_n hx hb dL_text_116 rfl (lv_at hl 2 rfl) ?_
        replace hf := obE hf
        obtain ⟨z452, hz452, hf⟩ := hf
        obtain ⟨r454, S453⟩ := z452
        replace hf := ltE (ltE hf r454 rfl) S453 rfl
        refine x_callS (As := [.ref (gen g 98), .int v2]) (rest := []) (o := (some (.int r454))) (S1 := S453) hC hl.1 hW hS hGs hA (c_L_then l g adL nL KL H.size F S0 v0 v2 tv0 r454 S453 hz452) (va_cwS 2 hts gL_text_L_then rfl rfl rfl (by decide +kernel) ⟨Nat.le_of_ble_eq_true rfl, Nat.le_of_ble_eq_true rfl⟩) rfl rfl (Nat.le_of_ble_eq_true rfl) dL_text_117 ⟨show cs ≤ 147 by omega, show ss ≤ 147528 from sl_v hss (by omega)⟩ (fun H locs hPz452 hW hS => ?_)
        refine W.eq (g2 := F0 m 120 ls [.int r454]) rfl ?_
        refine lv_if_lt (tgt := 142) hx hb dL_text_120 (by decide) (fun c456 => ?_) (fun c456 => ?_)
        · replace hf := ifT c456 hf
          exact L142 adL KL nL hagL cs ss (by omega) (sl_w hss (by omega)) S453 v0 v1 v2 tv0 tv1 _ _ _ hf hW hS (lv_sub hl [0, 1, 2] rfl)
        · replace hf := ifF c456 hf
          refine lv_aload_n hx hb dL_text_123 rfl (lv_at hl 1 rfl) ?_
          refine x_ldcM 7 (tx := " then c") hC hGM ⟨rfl, by decide⟩ dL_text_124 ?_
          replace hf := obE hf
          obtain ⟨z457, hz457, hf⟩ := hf
          obtain ⟨r459, S458, n460⟩ := z457
          replace hf := ltE (ltE (ltE hf r459 rfl) S458 rfl) n460 rfl
          refine x_acallV (As := [.ref (sad g adL ((7 : Nat)))]) (rest := []) (S1 := S458) (n1 := n460) (o := (fun a => some (va_re a r459))) (P := (fun K9 => ∀ j, r459 = some j → j < n460 ∧ K9 j = 10)) hC hl.1 hW hS hGs hA tv1 rfl (show vwCl[10]? = some (RJ4, TJ4, 4) ∧ ob 10 from ⟨rfl, by decide⟩) (c_J4_append_15ec4 l g adL nL KL H.size F S453 v1 ((7 : Nat)) tv1 (tS_c (by decide)) r459 S458 n460 hz457) (cwV 1 hts gL_text_J4_append_15ec4 rfl rfl rfl (by decide +kernel) ⟨Nat.le_of_ble_eq_true rfl, Nat.le_of_ble_eq_true rfl⟩) rfl rfl (Nat.le_of_ble_eq_true rfl) dL_text_126 ⟨(show cs + 1 ≤ 147 by omega), (show ss + 1024 ≤ 147528 from sl_v hss (by omega))⟩ (fun ad461 K462 H locs hag463 hPz457 hW hS => ?_)
          have g464 := hag463.t tv1
          have g465 := hag463.e tv1 rfl
          have ag466 := (hagL).tr hag463
          refine W.widen (k := (cs + 1)) (n := (ss + 1024)) (by omega) (by omega) ?_
          replace hf := obE hf
          obtain ⟨j467, qj467, hf⟩ := hf
          have tj467 := hPz457 j467 qj467
          refine W.eq (g2 := F0 m 129 ls [.ref (ad461 j467)]) (by rw [qj467]; rfl) ?_
          refine lv_bipush (v := 97) hx hb dL_text_129 (by decide) ?_
          refine lv_aload_n hx hb dL_text_131 rfl (lv_at hl 0 rfl) ?_
          refine lv_iload_n hx hb dL_text_132 rfl (lv_at hl 2 rfl) ?_
          replace hf := obE hf
          obtain ⟨z468, hz468, hf⟩ := hf
          obtain ⟨r470, S469⟩ := z468
          replace hf := ltE (ltE hf r470 rfl) S469 rfl
          refine x_callS (As := [.ref (gen g 98), .int v2]) (rest := [.int 97, .ref (ad461 j467)]) (o := (some (.int r470))) (S1 := S469) hC hl.1 hW hS hGs hA (c_L_then l g ad461 n460 K462 H.size F S458 v0 v2 tv0 r470 S469 hz468) (va_cwS 2 hts gL_text_L_then rfl rfl rfl (by decide +kernel) ⟨Nat.le_of_ble_eq_true rfl, Nat.le_of_ble_eq_true rfl⟩) rfl rfl (Nat.le_of_ble_eq_true rfl) dL_text_133 ⟨show (cs + 1) ≤ 147 by omega, show (ss + 1024) ≤ 147528 from sl_v hss (by omega)⟩ (fun H locs hPz468 hW hS => ?_)
          refine W.eq (g2 := F0 m 136 ls [.int r470, .int 97, .ref (ad461 j467)]) rfl ?_
          refine lv_iadd hx hb dL_text_136 ?_
          refine lv_i2c (v := ((97 + r470).toUInt32 % 65536).toInt32) hx hb dL_text_137 rfl ?_
          replace hf := obE hf
          obtain ⟨z472, hz472, hf⟩ := hf
          obtain ⟨r474, S473, n475⟩ := z472
          replace hf := ltE (ltE (ltE hf r474 rfl) S473 rfl) n475 rfl
          refine x_acallV (As := [.int (((97 + r470).toUInt32 % 65536).toInt32)]) (rest := []) (S1 := S473) (n1 := n475) (o := (fun a => some (va_re a r474))) (P := (fun K9 => ∀ j, r474 = some j → j < n475 ∧ K9 j = 10)) hC hl.1 hW hS hGs hA tj467 rfl (show vwCl[10]? = some (RJ4, TJ4, 4) ∧ ob 10 from ⟨rfl, by decide⟩) (c_J4_append_cf468 l g ad461 n460 K462 H.size F S469 j467 (((97 + r470).toUInt32 % 65536).toInt32) tj467 r474 S473 n475 hz472) (cwV 1 hts gL_text_J4_append_cf468 rfl rfl rfl (by decide +kernel) ⟨Nat.le_of_ble_eq_true rfl, Nat.le_of_ble_eq_true rfl⟩) rfl rfl (Nat.le_of_ble_eq_true rfl) dL_text_138 ⟨(show (cs + 1) + 1 ≤ 147 by omega), (show (ss + 1024) + 1024 ≤ 147528 from sl_v hss (by omega))⟩ (fun ad476 K477 H locs hag478 hPz472 hW hS => ?_)
          have g479 := hag478.t g464
          have g480 := hag478.e g464 g465
          have ag481 := (ag466).tr hag478
          refine W.widen (k := (cs + 2)) (n := (ss + 2048)) (by omega) (by omega) ?_
          replace hf := obE hf
          obtain ⟨j482, qj482, hf⟩ := hf
          have tj482 := hPz472 j482 qj482
          refine W.eq (g2 := F0 m 141 ls [.ref (ad476 j482)]) (by rw [qj482]; rfl) ?_
          refine lv_pop hx hb dL_text_141 rfl ?_
          exact L142 ad476 K477 n475 ag481 (cs + 2) (ss + 2048) (by omega) (sl_w hss (by omega)) S473 v0 v1 v2 tv0 g479 _ _ _ hf hW hS (lv_sub hl [0, 1, 2] (by rw [g480] <;> rfl))
      have L92 : ∀ (adL KL : Nat → Nat) (nL : Nat) (hagL : Ag ad K n adL KL nL) (cs ss : Nat) (hcs : cs + (5 + (fu36 * 9 + 86)) ≤ 147) (hss : SL (ss + (5120 + (fu36 * 9216 + 87044))) 147528) (S0 : St) (v0 : XS) (v1 : Nat) (v2 : Int32) (tv0 : v0 = gX g) (tv1 : v1 < nL ∧ KL v1 = 10) (H : Heap) (locs : List Loc) (ls : Array Slot), f_L_text_L92 F (fun a0 a1 a2 a3 a4 => f_L_text_L36 F fu36 a0 a1 a2 a3 a4) S0 nL v0 v1 v2 = some (r9, S9, n9) → Wb g adL nL KL S0 (dA ad n s.heap.size) H → va_S (dA ad n s.heap.size) s.heap H locs → lv_has ls 3 [(0, .ref (gen g 98)), (1, .ref (adL v1)), (2, .int v2)] → W p l e (headSpec wsL_text { frames := 9, cells := 147, slots := 147528, locals := 200 }).room s m (List.toArray [.ref (gen g 98)]) below meth c H locs cs ss (MQ below (QA ad K n (fun a => some (.ref (sad g a r9))) g n9 S9 (dA ad n s.heap.size) (fun K9 => tS 18 n9 K9 r9)) (List.toArray [.ref (gen g 98)]) s 147 147528 (dA ad n s.heap.size)) (F0 m 92 ls []) := by
        intro adL KL nL hagL cs ss hcs hss S0 v0 v1 v2 tv0 tv1 H locs ls hf hW hS hl
        unfold f_L_text_L92 at hf
        refine lv_aload_n hx hb dL_text_92 rfl (lv_at hl 0 rfl) ?_
        refine lv_iload_n hx hb dL_text_93 rfl (lv_at hl 2 rfl) ?_
        replace hf := obE hf
        obtain ⟨z514, hz514, hf⟩ := hf
        obtain ⟨r516, S515⟩ := z514
        replace hf := ltE (ltE hf r516 rfl) S515 rfl
        refine x_callS (As := [.ref (gen g 98), .int v2]) (rest := []) (o := (some (.int r516))) (S1 := S515) hC hl.1 hW hS hGs hA (c_L_keep l g adL nL KL H.size F S0 v0 v2 tv0 r516 S515 hz514) (va_cwS 2 hts gL_text_L_keep rfl rfl rfl (by decide +kernel) ⟨Nat.le_of_ble_eq_true rfl, Nat.le_of_ble_eq_true rfl⟩) rfl rfl (Nat.le_of_ble_eq_true rfl) dL_text_94 ⟨show cs ≤ 147 by omega, show ss ≤ 147528 from sl_v hss (by omega)⟩ (fun H locs hPz514 hW hS => ?_)
        refine W.eq (g2 := F0 m 97 ls [.int r516]) rfl ?_
        refine lv_if_le (tgt := 115) hx hb dL_text_97 (by decide) (fun c518 => ?_) (fun c518 => ?_)
        · replace hf := ifT c518 hf
          exact L115 adL KL nL hagL cs ss (by omega) (sl_w hss (by omega)) S515 v0 v1 v2 tv0 tv1 _ _ _ hf hW hS (lv_sub hl [0, 1, 2] rfl)
        · replace hf := ifF c518 hf
          refine lv_aload_n hx hb dL_text_100 rfl (lv_at hl 1 rfl) ?_
          refine x_ldcM 6 (tx := " keep ") hC hGM ⟨rfl, by decide⟩ dL_text_101 ?_
          replace hf := obE hf
          obtain ⟨z519, hz519, hf⟩ := hf
          obtain ⟨r521, S520, n522⟩ := z519
          replace hf := ltE (ltE (ltE hf r521 rfl) S520 rfl) n522 rfl
          refine x_acallV (As := [.ref (sad g adL ((6 : Nat)))]) (rest := []) (S1 := S520) (n1 := n522) (o := (fun a => some (va_re a r521))) (P := (fun K9 => ∀ j, r521 = some j → j < n522 ∧ K9 j = 10)) hC hl.1 hW hS hGs hA tv1 rfl (show vwCl[10]? = some (RJ4, TJ4, 4) ∧ ob 10 from ⟨rfl, by decide⟩) (c_J4_append_15ec4 l g adL nL KL H.size F S515 v1 ((6 : Nat)) tv1 (tS_c (by decide)) r521 S520 n522 hz519) (cwV 1 hts gL_text_J4_append_15ec4 rfl rfl rfl (by decide +kernel) ⟨Nat.le_of_ble_eq_true rfl, Nat.le_of_ble_eq_true rfl⟩) rfl rfl (Nat.le_of_ble_eq_true rfl) dL_text_103 ⟨(show cs + 1 ≤ 147 by omega), (show ss + 1024 ≤ 147528 from sl_v hss (by omega))⟩ (fun ad523 K524 H locs hag525 hPz519 hW hS => ?_)
          have g526 := hag525.t tv1
          have g527 := hag525.e tv1 rfl
          have ag528 := (hagL).tr hag525
          refine W.widen (k := (cs + 1)) (n := (ss + 1024)) (by omega) (by omega) ?_
          replace hf := obE hf
          obtain ⟨j529, qj529, hf⟩ := hf
          have tj529 := hPz519 j529 qj529
          refine W.eq (g2 := F0 m 106 ls [.ref (ad523 j529)]) (by rw [qj529]; rfl) ?_
          refine lv_aload_n hx hb dL_text_106 rfl (lv_at hl 0 rfl) ?_
          refine lv_iload_n hx hb dL_text_107 rfl (lv_at hl 2 rfl) ?_
          replace hf := obE hf
          obtain ⟨z530, hz530, hf⟩ := hf
          obtain ⟨r532, S531⟩ := z530
          replace hf := ltE (ltE hf r532 rfl) S531 rfl
          refine x_callS (As := [.ref (gen g 98), .int v2]) (rest := [.ref (ad523 j529)]) (o := (some (.int r532))) (S1 := S531) hC hl.1 hW hS hGs hA (c_L_keep l g ad523 n522 K524 H.size F S520 v0 v2 tv0 r532 S531 hz530) (va_cwS 2 hts gL_text_L_keep rfl rfl rfl (by decide +kernel) ⟨Nat.le_of_ble_eq_true rfl, Nat.le_of_ble_eq_true rfl⟩) rfl rfl (Nat.le_of_ble_eq_true rfl) dL_text_108 ⟨show (cs + 1) ≤ 147 by omega, show (ss + 1024) ≤ 147528 from sl_v hss (by omega)⟩ (fun H locs hPz530 hW hS => ?_)
          refine W.eq (g2 := F0 m 111 ls [.int r532, .ref (ad523 j529)]) rfl ?_
          replace hf := obE hf
          obtain ⟨z534, hz534, hf⟩ := hf
          obtain ⟨r536, S535, n537⟩ := z534
          replace hf := ltE (ltE (ltE hf r536 rfl) S535 rfl) n537 rfl
          refine x_acallV (As := [.int r532]) (rest := []) (S1 := S535) (n1 := n537) (o := (fun a => some (va_re a r536))) (P := (fun K9 => ∀ j, r536 = some j → j < n537 ∧ K9 j = 10)) hC hl.1 hW hS hGs hA tj529 rfl (show vwCl[10]? = some (RJ4, TJ4, 4) ∧ ob 10 from ⟨rfl, by decide⟩) (c_J4_append_bf812 l g ad523 n522 K524 H.size F S531 j529 r532 tj529 r536 S535 n537 hz534) (cwV 1 hts gL_text_J4_append_bf812 rfl rfl rfl (by decide +kernel) ⟨Nat.le_of_ble_eq_true rfl, Nat.le_of_ble_eq_true rfl⟩) rfl rfl (Nat.le_of_ble_eq_true rfl) dL_text_111 ⟨(show (cs + 1) + 1 ≤ 147 by omega), (show (ss + 1024) + 1024 ≤ 147528 from sl_v hss (by omega))⟩ (fun ad538 K539 H locs hag540 hPz534 hW hS => ?_)
          have g541 := hag540.t g526
          have g542 := hag540.e g526 g527
          have ag543 := (ag528).tr hag540
          refine W.widen (k := (cs + 2)) (n := (ss + 2048)) (by omega) (by omega) ?_
          replace hf := obE hf
          obtain ⟨j544, qj544, hf⟩ := hf
          have tj544 := hPz534 j544 qj544
          refine W.eq (g2 := F0 m 114 ls [.ref (ad538 j544)]) (by rw [qj544]; rfl) ?_
          refine lv_pop hx hb dL_text_114 rfl ?_
          exact L115 ad538 K539 n537 ag543 (cs + 2) (ss + 2048) (by omega) (sl_w hss (by omega)) S535 v0 v1 v2 tv0 g541 _ _ _ hf hW hS (lv_sub hl [0, 1, 2] (by rw [g542] <;> rfl))
      intro adL KL nL hagL cs ss hcs hss S0 v0 v1 v2 tv0 tv1 H locs ls hf hW hS hl
      replace hss := sl_s hss
      unfold f_L_text_L36 at hf
      refine lv_iload_n hx hb dL_text_36 rfl (lv_at hl 2 rfl) ?_
      refine lv_aload_n hx hb dL_text_37 rfl (lv_at hl 0 rfl) ?_
      replace hf := obE hf
      obtain ⟨z614, hz614, hf⟩ := hf
      obtain ⟨r616, S615⟩ := z614
      replace hf := ltE (ltE hf r616 rfl) S615 rfl
      refine x_callS (As := [.ref (gen g 98)]) (rest := [.int v2]) (o := (some (.int r616))) (S1 := S615) hC hl.1 hW hS hGs hA (c_L_classes l g adL nL KL H.size F S0 v0 tv0 r616 S615 hz614) (va_cwS 1 hts gL_text_L_classes rfl rfl rfl (by decide +kernel) ⟨Nat.le_of_ble_eq_true rfl, Nat.le_of_ble_eq_true rfl⟩) rfl rfl (Nat.le_of_ble_eq_true rfl) dL_text_38 ⟨show cs ≤ 147 by omega, show ss ≤ 147528 from sl_v hss (by omega)⟩ (fun H locs hPz614 hW hS => ?_)
      refine W.eq (g2 := F0 m 41 ls [.int r616, .int v2]) rfl ?_
      refine lv_icmp_ge (tgt := 155) hx hb dL_text_41 (by decide) (fun c618 => ?_) (fun c618 => ?_)
      · replace hf := ifT c618 hf
        refine lv_iconst (v := 0) hx hb dL_text_155 (by decide) ?_
        refine lv_istore_n (lv' := [(2, .int 0), (0, .ref (gen g 98)), (1, .ref (adL v1))]) hx hb dL_text_156 rfl hl (by decide) rfl (fun ls hl => ?_)
        exact L157 6 adL KL nL hagL cs ss (by omega) (sl_y hss (Nat.le_of_ble_eq_true rfl)) S615 v0 v1 0 tv0 tv1 _ _ _ hf hW hS (lv_sub hl [1, 2, 0] rfl)
      · replace hf := ifF c618 hf
        refine lv_aload_n hx hb dL_text_44 rfl (lv_at hl 1 rfl) ?_
        refine x_ldcM 3 (tx := "class c") hC hGM ⟨rfl, by decide⟩ dL_text_45 ?_
        replace hf := obE hf
        obtain ⟨z619, hz619, hf⟩ := hf
        obtain ⟨r621, S620, n622⟩ := z619
        replace hf := ltE (ltE (ltE hf r621 rfl) S620 rfl) n622 rfl
        refine x_acallV (As := [.ref (sad g adL ((3 : Nat)))]) (rest := []) (S1 := S620) (n1 := n622) (o := (fun a => some (va_re a r621))) (P := (fun K9 => ∀ j, r621 = some j → j < n622 ∧ K9 j = 10)) hC hl.1 hW hS hGs hA tv1 rfl (show vwCl[10]? = some (RJ4, TJ4, 4) ∧ ob 10 from ⟨rfl, by decide⟩) (c_J4_append_15ec4 l g adL nL KL H.size F S615 v1 ((3 : Nat)) tv1 (tS_c (by decide)) r621 S620 n622 hz619) (cwV 1 hts gL_text_J4_append_15ec4 rfl rfl rfl (by decide +kernel) ⟨Nat.le_of_ble_eq_true rfl, Nat.le_of_ble_eq_true rfl⟩) rfl rfl (Nat.le_of_ble_eq_true rfl) dL_text_47 ⟨(show cs + 1 ≤ 147 by omega), (show ss + 1024 ≤ 147528 from sl_v hss (by omega))⟩ (fun ad623 K624 H locs hag625 hPz619 hW hS => ?_)
        have g626 := hag625.t tv1
        have g627 := hag625.e tv1 rfl
        have ag628 := (hagL).tr hag625
        refine W.widen (k := (cs + 1)) (n := (ss + 1024)) (by omega) (by omega) ?_
        replace hf := obE hf
        obtain ⟨j629, qj629, hf⟩ := hf
        have tj629 := hPz619 j629 qj629
        refine W.eq (g2 := F0 m 50 ls [.ref (ad623 j629)]) (by rw [qj629]; rfl) ?_
        refine lv_bipush (v := 97) hx hb dL_text_50 (by decide) ?_
        refine lv_iload_n hx hb dL_text_52 rfl (lv_at hl 2 rfl) ?_
        refine lv_iadd hx hb dL_text_53 ?_
        refine lv_i2c (v := ((97 + v2).toUInt32 % 65536).toInt32) hx hb dL_text_54 rfl ?_
        replace hf := obE hf
        obtain ⟨z630, hz630, hf⟩ := hf
        obtain ⟨r632, S631, n633⟩ := z630
        replace hf := ltE (ltE (ltE hf r632 rfl) S631 rfl) n633 rfl
        refine x_acallV (As := [.int (((97 + v2).toUInt32 % 65536).toInt32)]) (rest := []) (S1 := S631) (n1 := n633) (o := (fun a => some (va_re a r632))) (P := (fun K9 => ∀ j, r632 = some j → j < n633 ∧ K9 j = 10)) hC hl.1 hW hS hGs hA tj629 rfl (show vwCl[10]? = some (RJ4, TJ4, 4) ∧ ob 10 from ⟨rfl, by decide⟩) (c_J4_append_cf468 l g ad623 n622 K624 H.size F S620 j629 (((97 + v2).toUInt32 % 65536).toInt32) tj629 r632 S631 n633 hz630) (cwV 1 hts gL_text_J4_append_cf468 rfl rfl rfl (by decide +kernel) ⟨Nat.le_of_ble_eq_true rfl, Nat.le_of_ble_eq_true rfl⟩) rfl rfl (Nat.le_of_ble_eq_true rfl) dL_text_55 ⟨(show (cs + 1) + 1 ≤ 147 by omega), (show (ss + 1024) + 1024 ≤ 147528 from sl_v hss (by omega))⟩ (fun ad634 K635 H locs hag636 hPz630 hW hS => ?_)
        have g637 := hag636.t g626
        have g638 := hag636.e g626 g627
        have ag639 := (ag628).tr hag636
        refine W.widen (k := (cs + 2)) (n := (ss + 2048)) (by omega) (by omega) ?_
        replace hf := obE hf
        obtain ⟨j640, qj640, hf⟩ := hf
        have tj640 := hPz630 j640 qj640
        refine W.eq (g2 := F0 m 58 ls [.ref (ad634 j640)]) (by rw [qj640]; rfl) ?_
        refine x_ldcM 4 (tx := " days ") hC hGM ⟨rfl, by decide⟩ dL_text_58 ?_
        replace hf := obE hf
        obtain ⟨z641, hz641, hf⟩ := hf
        obtain ⟨r643, S642, n644⟩ := z641
        replace hf := ltE (ltE (ltE hf r643 rfl) S642 rfl) n644 rfl
        refine x_acallV (As := [.ref (sad g ad634 ((4 : Nat)))]) (rest := []) (S1 := S642) (n1 := n644) (o := (fun a => some (va_re a r643))) (P := (fun K9 => ∀ j, r643 = some j → j < n644 ∧ K9 j = 10)) hC hl.1 hW hS hGs hA tj640 rfl (show vwCl[10]? = some (RJ4, TJ4, 4) ∧ ob 10 from ⟨rfl, by decide⟩) (c_J4_append_15ec4 l g ad634 n633 K635 H.size F S631 j640 ((4 : Nat)) tj640 (tS_c (by decide)) r643 S642 n644 hz641) (cwV 1 hts gL_text_J4_append_15ec4 rfl rfl rfl (by decide +kernel) ⟨Nat.le_of_ble_eq_true rfl, Nat.le_of_ble_eq_true rfl⟩) rfl rfl (Nat.le_of_ble_eq_true rfl) dL_text_60 ⟨(show (cs + 2) + 1 ≤ 147 by omega), (show (ss + 2048) + 1024 ≤ 147528 from sl_v hss (by omega))⟩ (fun ad645 K646 H locs hag647 hPz641 hW hS => ?_)
        have g648 := hag647.t g637
        have g649 := hag647.e g637 g638
        have ag650 := (ag639).tr hag647
        refine W.widen (k := (cs + 3)) (n := (ss + 3072)) (by omega) (by omega) ?_
        replace hf := obE hf
        obtain ⟨j651, qj651, hf⟩ := hf
        have tj651 := hPz641 j651 qj651
        refine W.eq (g2 := F0 m 63 ls [.ref (ad645 j651)]) (by rw [qj651]; rfl) ?_
        refine lv_pop hx hb dL_text_63 rfl ?_
        refine lv_aload_n hx hb dL_text_64 rfl (lv_at hl 0 rfl) ?_
        refine lv_iload_n hx hb dL_text_65 rfl (lv_at hl 2 rfl) ?_
        replace hf := obE hf
        obtain ⟨z652, hz652, hf⟩ := hf
        obtain ⟨r654, S653⟩ := z652
        replace hf := ltE (ltE hf r654 rfl) S653 rfl
        refine x_callS (As := [.ref (gen g 98), .int v2]) (rest := []) (o := (some (.int r654))) (S1 := S653) hC hl.1 hW hS hGs hA (c_L_days l g ad645 n644 K646 H.size F S642 v0 v2 tv0 r654 S653 hz652) (va_cwS 2 hts gL_text_L_days rfl rfl rfl (by decide +kernel) ⟨Nat.le_of_ble_eq_true rfl, Nat.le_of_ble_eq_true rfl⟩) rfl rfl (Nat.le_of_ble_eq_true rfl) dL_text_66 ⟨show (cs + 3) ≤ 147 by omega, show (ss + 3072) ≤ 147528 from sl_v hss (by omega)⟩ (fun H locs hPz652 hW hS => ?_)
        refine W.eq (g2 := F0 m 69 ls [.int r654]) rfl ?_
        refine lv_if_ge (tgt := 82) hx hb dL_text_69 (by decide) (fun c656 => ?_) (fun c656 => ?_)
        · replace hf := ifT c656 hf
          refine lv_aload_n hx hb dL_text_82 rfl (lv_at hl 1 rfl) ?_
          refine lv_aload_n hx hb dL_text_83 rfl (lv_at hl 0 rfl) ?_
          refine lv_iload_n hx hb dL_text_84 rfl (lv_at hl 2 rfl) ?_
          replace hf := obE hf
          obtain ⟨z657, hz657, hf⟩ := hf
          obtain ⟨r659, S658⟩ := z657
          replace hf := ltE (ltE hf r659 rfl) S658 rfl
          refine x_callS (As := [.ref (gen g 98), .int v2]) (rest := [.ref (adL v1)]) (o := (some (.int r659))) (S1 := S658) hC hl.1 hW hS hGs hA (c_L_days l g ad645 n644 K646 H.size F S653 v0 v2 tv0 r659 S658 hz657) (va_cwS 2 hts gL_text_L_days rfl rfl rfl (by decide +kernel) ⟨Nat.le_of_ble_eq_true rfl, Nat.le_of_ble_eq_true rfl⟩) rfl rfl (Nat.le_of_ble_eq_true rfl) dL_text_85 ⟨show (cs + 3) ≤ 147 by omega, show (ss + 3072) ≤ 147528 from sl_v hss (by omega)⟩ (fun H locs hPz657 hW hS => ?_)
          refine W.eq (g2 := F0 m 88 ls [.int r659, .ref (adL v1)]) rfl ?_
          replace hf := obE hf
          obtain ⟨z661, hz661, hf⟩ := hf
          obtain ⟨r663, S662, n664⟩ := z661
          replace hf := ltE (ltE (ltE hf r663 rfl) S662 rfl) n664 rfl
          refine x_acallV (As := [.int r659]) (rest := []) (S1 := S662) (n1 := n664) (o := (fun a => some (va_re a r663))) (P := (fun K9 => ∀ j, r663 = some j → j < n664 ∧ K9 j = 10)) hC hl.1 hW hS hGs hA g648 rfl (show vwCl[10]? = some (RJ4, TJ4, 4) ∧ ob 10 from ⟨rfl, by decide⟩) (c_J4_append_bf812 l g ad645 n644 K646 H.size F S658 v1 r659 g648 r663 S662 n664 hz661) (cwV 1 hts gL_text_J4_append_bf812 rfl rfl rfl (by decide +kernel) ⟨Nat.le_of_ble_eq_true rfl, Nat.le_of_ble_eq_true rfl⟩) rfl (by rw [g649] <;> rfl) (Nat.le_of_ble_eq_true rfl) dL_text_88 ⟨(show (cs + 3) + 1 ≤ 147 by omega), (show (ss + 3072) + 1024 ≤ 147528 from sl_v hss (by omega))⟩ (fun ad665 K666 H locs hag667 hPz661 hW hS => ?_)
          have g668 := hag667.t g648
          have g669 := hag667.e g648 g649
          have ag670 := (ag650).tr hag667
          refine W.widen (k := (cs + 4)) (n := (ss + 4096)) (by omega) (by omega) ?_
          replace hf := obE hf
          obtain ⟨j671, qj671, hf⟩ := hf
          have tj671 := hPz661 j671 qj671
          refine W.eq (g2 := F0 m 91 ls [.ref (ad665 j671)]) (by rw [qj671]; rfl) ?_
          refine lv_pop hx hb dL_text_91 rfl ?_
          exact L92 ad665 K666 n664 ag670 (cs + 4) (ss + 4096) (by omega) (sl_w hss (by omega)) S662 v0 v1 v2 tv0 g668 _ _ _ hf hW hS (lv_sub hl [0, 1, 2] (by rw [g669] <;> rfl))
        · replace hf := ifF c656 hf
          refine lv_aload_n hx hb dL_text_72 rfl (lv_at hl 1 rfl) ?_
          refine x_ldcM 5 (tx := "forever") hC hGM ⟨rfl, by decide⟩ dL_text_73 ?_
          replace hf := obE hf
          obtain ⟨z672, hz672, hf⟩ := hf
          obtain ⟨r674, S673, n675⟩ := z672
          replace hf := ltE (ltE (ltE hf r674 rfl) S673 rfl) n675 rfl
          refine x_acallV (As := [.ref (sad g ad645 ((5 : Nat)))]) (rest := []) (S1 := S673) (n1 := n675) (o := (fun a => some (va_re a r674))) (P := (fun K9 => ∀ j, r674 = some j → j < n675 ∧ K9 j = 10)) hC hl.1 hW hS hGs hA g648 rfl (show vwCl[10]? = some (RJ4, TJ4, 4) ∧ ob 10 from ⟨rfl, by decide⟩) (c_J4_append_15ec4 l g ad645 n644 K646 H.size F S653 v1 ((5 : Nat)) g648 (tS_c (by decide)) r674 S673 n675 hz672) (cwV 1 hts gL_text_J4_append_15ec4 rfl rfl rfl (by decide +kernel) ⟨Nat.le_of_ble_eq_true rfl, Nat.le_of_ble_eq_true rfl⟩) rfl (by rw [g649] <;> rfl) (Nat.le_of_ble_eq_true rfl) dL_text_75 ⟨(show (cs + 3) + 1 ≤ 147 by omega), (show (ss + 3072) + 1024 ≤ 147528 from sl_v hss (by omega))⟩ (fun ad676 K677 H locs hag678 hPz672 hW hS => ?_)
          have g679 := hag678.t g648
          have g680 := hag678.e g648 g649
          have ag681 := (ag650).tr hag678
          refine W.widen (k := (cs + 4)) (n := (ss + 4096)) (by omega) (by omega) ?_
          replace hf := obE hf
          obtain ⟨j682, qj682, hf⟩ := hf
          have tj682 := hPz672 j682 qj682
          refine W.eq (g2 := F0 m 78 ls [.ref (ad676 j682)]) (by rw [qj682]; rfl) ?_
          refine lv_pop hx hb dL_text_78 rfl ?_
          refine lv_goto (tgt := 92) hx hb dL_text_79 (by decide) ?_
          exact L92 ad676 K677 n675 ag681 (cs + 4) (ss + 4096) (by omega) (sl_w hss (by omega)) S673 v0 v1 v2 tv0 g679 _ _ _ hf hW hS (lv_sub hl [0, 1, 2] (by rw [g680] <;> rfl))
  unfold f_L_text at hf
  refine x_new (ci := 10) (C := RJ4) (T := TJ4) (N := 4) hC hinJ4 tyJ4_ok hW hS hA ⟨rfl, by decide, by decide⟩ (by decide +kernel) w_0 w_1 w_2 (show 0 + 1 ≤ 147 by omega) (show 0 + 4 ≤ 147528 by omega) dL_text_0 (fun q683 ad684 K685 S686 H eS686 hag688 eqq683 ekq683 hW hS => ?_)
  replace hf := ltE hf S686 eS686
  obtain ⟨n687, en687⟩ : ∃ z, z = n + 1 := ⟨_, rfl⟩
  rw [← en687] at hag688 hW
  replace hf := ltE hf n687 en687
  have tq683 : n < n687 ∧ K685 n = 10 := ⟨by omega, ekq683⟩
  have ag689 := (Ag.rf).tr hag688
  refine W.widen (k := 1) (n := 4) (by omega) (by omega) ?_
  refine lv_dup hx hb dL_text_3 rfl ?_
  refine x_ldcM 0 (tx := "spool grace ") hC hGM ⟨rfl, by decide⟩ dL_text_4 ?_
  replace hf := obE hf
  obtain ⟨z690, hz690, hf⟩ := hf
  obtain ⟨S691, n693⟩ := z690
  replace hf := ltE (ltE hf S691 rfl) n693 rfl
  refine x_acallI (As := [.ref (sad g ad684 ((0 : Nat)))]) (rest := [.ref (q683)]) (S1 := S691) (n1 := n693) (o := (fun _ => none)) (P := (fun _ => True)) hC hl.1 hW hS hGs hA (c_J4_init_a7421 l g ad684 n687 K685 H.size F S686 n ((0 : Nat)) tq683 (tS_c (by decide)) S691 n693 hz690) (cwI 1 hts gL_text_J4_init_a7421 rfl rfl rfl w_2 w_3 w_4 rfl (by decide +kernel) ⟨Nat.le_of_ble_eq_true rfl, Nat.le_of_ble_eq_true rfl⟩) rfl (by rw [eqq683] <;> rfl) (Nat.le_of_ble_eq_true rfl) dL_text_6 ⟨(show 1 + 2 ≤ 147 by omega), (show 4 + 1088 ≤ 147528 by omega)⟩ (fun ad694 K695 H locs hag696 hPz690 hW hS => ?_)
  have g697 := hag696.t tq683
  have g698 := hag696.e tq683 eqq683
  have ag699 := (ag689).tr hag696
  refine W.widen (k := 3) (n := 1092) (by omega) (by omega) ?_
  refine W.eq (g2 := F0 m 9 ls [.ref (q683)]) rfl ?_
  refine lv_aload_n hx hb dL_text_9 rfl (lv_at hl 0 rfl) ?_
  replace hf := obE hf
  obtain ⟨z700, hz700, hf⟩ := hf
  obtain ⟨r702, S701⟩ := z700
  replace hf := ltE (ltE hf r702 rfl) S701 rfl
  refine x_callS (As := [.ref (gen g 98)]) (rest := [.ref (q683)]) (o := (some (.int r702))) (S1 := S701) hC hl.1 hW hS hGs hA (c_L_grace l g ad694 n693 K695 H.size F S691 p0 tp0 r702 S701 hz700) (va_cwS 1 hts gL_text_L_grace rfl rfl rfl (by decide +kernel) ⟨Nat.le_of_ble_eq_true rfl, Nat.le_of_ble_eq_true rfl⟩) rfl rfl (Nat.le_of_ble_eq_true rfl) dL_text_10 ⟨show 3 ≤ 147 by omega, show 1092 ≤ 147528 by omega⟩ (fun H locs hPz700 hW hS => ?_)
  refine W.eq (g2 := F0 m 13 ls [.int r702, .ref (q683)]) rfl ?_
  replace hf := obE hf
  obtain ⟨z704, hz704, hf⟩ := hf
  obtain ⟨r706, S705, n707⟩ := z704
  replace hf := ltE (ltE (ltE hf r706 rfl) S705 rfl) n707 rfl
  refine x_acallV (As := [.int r702]) (rest := []) (S1 := S705) (n1 := n707) (o := (fun a => some (va_re a r706))) (P := (fun K9 => ∀ j, r706 = some j → j < n707 ∧ K9 j = 10)) hC hl.1 hW hS hGs hA g697 rfl (show vwCl[10]? = some (RJ4, TJ4, 4) ∧ ob 10 from ⟨rfl, by decide⟩) (c_J4_append_bf812 l g ad694 n693 K695 H.size F S701 n r702 g697 r706 S705 n707 hz704) (cwV 1 hts gL_text_J4_append_bf812 rfl rfl rfl (by decide +kernel) ⟨Nat.le_of_ble_eq_true rfl, Nat.le_of_ble_eq_true rfl⟩) rfl (by rw [g698] <;> rfl) (Nat.le_of_ble_eq_true rfl) dL_text_13 ⟨(show 3 + 1 ≤ 147 by omega), (show 1092 + 1024 ≤ 147528 by omega)⟩ (fun ad708 K709 H locs hag710 hPz704 hW hS => ?_)
  have ag711 := (ag699).tr hag710
  refine W.widen (k := 4) (n := 2116) (by omega) (by omega) ?_
  replace hf := obE hf
  obtain ⟨j712, qj712, hf⟩ := hf
  have tj712 := hPz704 j712 qj712
  refine W.eq (g2 := F0 m 16 ls [.ref (ad708 j712)]) (by rw [qj712]; rfl) ?_
  refine x_ldcM 1 (tx := " round ") hC hGM ⟨rfl, by decide⟩ dL_text_16 ?_
  replace hf := obE hf
  obtain ⟨z713, hz713, hf⟩ := hf
  obtain ⟨r715, S714, n716⟩ := z713
  replace hf := ltE (ltE (ltE hf r715 rfl) S714 rfl) n716 rfl
  refine x_acallV (As := [.ref (sad g ad708 ((1 : Nat)))]) (rest := []) (S1 := S714) (n1 := n716) (o := (fun a => some (va_re a r715))) (P := (fun K9 => ∀ j, r715 = some j → j < n716 ∧ K9 j = 10)) hC hl.1 hW hS hGs hA tj712 rfl (show vwCl[10]? = some (RJ4, TJ4, 4) ∧ ob 10 from ⟨rfl, by decide⟩) (c_J4_append_15ec4 l g ad708 n707 K709 H.size F S705 j712 ((1 : Nat)) tj712 (tS_c (by decide)) r715 S714 n716 hz713) (cwV 1 hts gL_text_J4_append_15ec4 rfl rfl rfl (by decide +kernel) ⟨Nat.le_of_ble_eq_true rfl, Nat.le_of_ble_eq_true rfl⟩) rfl rfl (Nat.le_of_ble_eq_true rfl) dL_text_18 ⟨(show 4 + 1 ≤ 147 by omega), (show 2116 + 1024 ≤ 147528 by omega)⟩ (fun ad717 K718 H locs hag719 hPz713 hW hS => ?_)
  have ag720 := (ag711).tr hag719
  refine W.widen (k := 5) (n := 3140) (by omega) (by omega) ?_
  replace hf := obE hf
  obtain ⟨j721, qj721, hf⟩ := hf
  have tj721 := hPz713 j721 qj721
  refine W.eq (g2 := F0 m 21 ls [.ref (ad717 j721)]) (by rw [qj721]; rfl) ?_
  refine lv_aload_n hx hb dL_text_21 rfl (lv_at hl 0 rfl) ?_
  replace hf := obE hf
  obtain ⟨z722, hz722, hf⟩ := hf
  obtain ⟨r724, S723⟩ := z722
  replace hf := ltE (ltE hf r724 rfl) S723 rfl
  refine x_callS (As := [.ref (gen g 98)]) (rest := [.ref (ad717 j721)]) (o := (some (.int r724))) (S1 := S723) hC hl.1 hW hS hGs hA (c_L_interval l g ad717 n716 K718 H.size F S714 p0 tp0 r724 S723 hz722) (va_cwS 1 hts gL_text_L_interval rfl rfl rfl (by decide +kernel) ⟨Nat.le_of_ble_eq_true rfl, Nat.le_of_ble_eq_true rfl⟩) rfl rfl (Nat.le_of_ble_eq_true rfl) dL_text_22 ⟨show 5 ≤ 147 by omega, show 3140 ≤ 147528 by omega⟩ (fun H locs hPz722 hW hS => ?_)
  refine W.eq (g2 := F0 m 25 ls [.int r724, .ref (ad717 j721)]) rfl ?_
  replace hf := obE hf
  obtain ⟨z726, hz726, hf⟩ := hf
  obtain ⟨r728, S727, n729⟩ := z726
  replace hf := ltE (ltE (ltE hf r728 rfl) S727 rfl) n729 rfl
  refine x_acallV (As := [.int r724]) (rest := []) (S1 := S727) (n1 := n729) (o := (fun a => some (va_re a r728))) (P := (fun K9 => ∀ j, r728 = some j → j < n729 ∧ K9 j = 10)) hC hl.1 hW hS hGs hA tj721 rfl (show vwCl[10]? = some (RJ4, TJ4, 4) ∧ ob 10 from ⟨rfl, by decide⟩) (c_J4_append_bf812 l g ad717 n716 K718 H.size F S723 j721 r724 tj721 r728 S727 n729 hz726) (cwV 1 hts gL_text_J4_append_bf812 rfl rfl rfl (by decide +kernel) ⟨Nat.le_of_ble_eq_true rfl, Nat.le_of_ble_eq_true rfl⟩) rfl rfl (Nat.le_of_ble_eq_true rfl) dL_text_25 ⟨(show 5 + 1 ≤ 147 by omega), (show 3140 + 1024 ≤ 147528 by omega)⟩ (fun ad730 K731 H locs hag732 hPz726 hW hS => ?_)
  have ag733 := (ag720).tr hag732
  refine W.widen (k := 6) (n := 4164) (by omega) (by omega) ?_
  replace hf := obE hf
  obtain ⟨j734, qj734, hf⟩ := hf
  have tj734 := hPz726 j734 qj734
  refine W.eq (g2 := F0 m 28 ls [.ref (ad730 j734)]) (by rw [qj734]; rfl) ?_
  refine x_ldcM 2 (tx := ";") hC hGM ⟨rfl, by decide⟩ dL_text_28 ?_
  replace hf := obE hf
  obtain ⟨z735, hz735, hf⟩ := hf
  obtain ⟨r737, S736, n738⟩ := z735
  replace hf := ltE (ltE (ltE hf r737 rfl) S736 rfl) n738 rfl
  refine x_acallV (As := [.ref (sad g ad730 ((2 : Nat)))]) (rest := []) (S1 := S736) (n1 := n738) (o := (fun a => some (va_re a r737))) (P := (fun K9 => ∀ j, r737 = some j → j < n738 ∧ K9 j = 10)) hC hl.1 hW hS hGs hA tj734 rfl (show vwCl[10]? = some (RJ4, TJ4, 4) ∧ ob 10 from ⟨rfl, by decide⟩) (c_J4_append_15ec4 l g ad730 n729 K731 H.size F S727 j734 ((2 : Nat)) tj734 (tS_c (by decide)) r737 S736 n738 hz735) (cwV 1 hts gL_text_J4_append_15ec4 rfl rfl rfl (by decide +kernel) ⟨Nat.le_of_ble_eq_true rfl, Nat.le_of_ble_eq_true rfl⟩) rfl rfl (Nat.le_of_ble_eq_true rfl) dL_text_30 ⟨(show 6 + 1 ≤ 147 by omega), (show 4164 + 1024 ≤ 147528 by omega)⟩ (fun ad739 K740 H locs hag741 hPz735 hW hS => ?_)
  have ag742 := (ag733).tr hag741
  refine W.widen (k := 7) (n := 5188) (by omega) (by omega) ?_
  replace hf := obE hf
  obtain ⟨j743, qj743, hf⟩ := hf
  have tj743 := hPz735 j743 qj743
  refine W.eq (g2 := F0 m 33 ls [.ref (ad739 j743)]) (by rw [qj743]; rfl) ?_
  refine lv_astore_n (lv' := [(1, .ref (ad739 j743)), (0, .ref (gen g 98))]) hx hb dL_text_33 rfl hl (by decide) rfl (fun ls hl => ?_)
  refine lv_iconst (v := 0) hx hb dL_text_34 (by decide) ?_
  refine lv_istore_n (lv' := [(2, .int 0), (1, .ref (ad739 j743)), (0, .ref (gen g 98))]) hx hb dL_text_35 rfl hl (by decide) rfl (fun ls hl => ?_)
  exact L36 6 ad739 K740 n738 ag742 7 5188 (by omega) (show 5188 + (6 * 9216 + 87044) ≤ 147528 from Nat.le_of_ble_eq_true rfl) S736 p0 j743 0 tp0 tj743 _ _ _ hf hW hS (lv_sub hl [2, 1, 0] rfl)
