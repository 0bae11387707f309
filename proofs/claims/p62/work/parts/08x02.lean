set_option maxHeartbeats 4000000 in
set_option maxRecDepth 100000 in
theorem c_L_load (l : Launch) (g : GP) (ad : Nat → Nat) (n : Nat) (K : Nat → Nat) (sz F : Nat) (S0 : St) (p0 : Nat) (p1 : XS) (tp0 : p0 < n ∧ K p0 = 9) (tp1 : p1 = gX g) (r9 : Int32) (S9 : St) (n9 : Nat) (hf : f_L_load F S0 n p0 p1 = some (r9, S9, n9)) : Met l yL_load wsL_load { frames := 10, cells := 167, slots := 147676, locals := 222 } (va_Pc [.ref (ad p0), .ref (gen g 98)] (PB g ad n K S0 sz)) (QA ad K n (fun _ => (some (.int r9))) g n9 S9 (dA ad n sz) (fun _ => True)) 167 147676 (dA ad n sz) := by
  refine Met.ofW (cc := cL_load) (maxL := 2) (ret := (some .boolean)) (by decide) rfl ?_
  intro p e s m args below meth c s₁ B hml hv
  obtain ⟨rfl, hsz, hW, hK, hGs⟩ := x_start hv
  subst hsz
  have hx := B.exec
  have hb := B.bytes
  have hr := B.returns
  have hts := atoms_spec (ws := wsL_load) B.pre
  have hown : s.vm.findClass RL = some m.cls := findClass_of_methodNamed B.named
  have hlk := B.notSynchronized
  have hC : Cx g p s m _ c cL_load RL wsL_load 2 := ⟨hx, hb, hml, hown, hts, hK⟩
  have hA : ∀ q : Nat, s.heap.size ≤ q → dA ad n s.heap.size q := fun q h => Or.inr h
  have hS : va_S (dA ad n s.heap.size) s.heap s.heap [] := va_S.rf
  have hl := lv_entry ([.ref (ad p0), .ref (gen g 98)]) (n := 2) (Nat.le_of_ble_eq_true rfl)
  rw [lg_entry_eq]
  generalize (lg_sl ([.ref (ad p0), .ref (gen g 98)]) ++ List.replicate (2 - (lg_sl ([.ref (ad p0), .ref (gen g 98)])).length) Slot.unset).toArray = ls at hl ⊢
  have hl : lv_has ls 2 [(0, .ref (ad p0)), (1, .ref (gen g 98))] := hl
  have hGE := hGs.2.2.2.1
  have hGM := hGs.2.2.2.2
  unfold f_L_load at hf
  refine lv_aload_n hx hb dL_load_0 rfl (lv_at hl 0 rfl) ?_
  refine lv_aload_n hx hb dL_load_1 rfl (lv_at hl 1 rfl) ?_
  replace hf := obE hf
  obtain ⟨z1, hz1, hf⟩ := hf
  obtain ⟨r3, S2, n4⟩ := z1
  replace hf := ltE (ltE (ltE hf r3 rfl) S2 rfl) n4 rfl
  refine x_acallS (As := [.ref (gen g 98)]) (rest := [.ref (ad p0)]) (S1 := S2) (n1 := n4) (o := (fun a => some (.ref (sad g a r3)))) (P := (fun K9 => tS 18 n4 K9 r3)) hC hl.1 hW hS hGs hA (c_L_text l g ad n K s.heap.size F S0 p1 tp1 r3 S2 n4 hz1) (va_cwS 1 hts gL_load_L_text rfl rfl rfl (by decide +kernel) ⟨Nat.le_of_ble_eq_true rfl, Nat.le_of_ble_eq_true rfl⟩) rfl rfl (Nat.le_of_ble_eq_true rfl) dL_load_2 ⟨(Nat.le_of_ble_eq_true rfl), (Nat.le_of_ble_eq_true rfl)⟩ (fun ad5 K6 H locs hag7 hPz1 hW hS => ?_)
  have g8 := hag7.t tp0
  have g9 := hag7.e tp0 rfl
  have ag10 := (Ag.rf).tr hag7
  refine W.widen (k := 147) (n := 147528) (by omega) (by omega) ?_
  refine W.eq (g2 := F0 m 5 ls [.ref ((sad g ad5 r3)), .ref (ad p0)]) rfl ?_
  replace hf := obE hf
  obtain ⟨S12, hz11, hf⟩ := hf
  refine x_callS (As := [.ref (ad5 p0), .ref ((sad g ad5 r3))]) (rest := []) (o := none) (S1 := S12) hC hl.1 hW hS hGs hA (c_L_feed l g ad5 n4 K6 H.size F S2 p0 r3 g8 hPz1 S12 hz11) (va_cwS 2 hts gL_load_L_feed rfl rfl rfl (by decide +kernel) ⟨Nat.le_of_ble_eq_true rfl, Nat.le_of_ble_eq_true rfl⟩) rfl (by rw [g9] <;> rfl) (Nat.le_of_ble_eq_true rfl) dL_load_5 ⟨Nat.le_of_ble_eq_true rfl, Nat.le_of_ble_eq_true rfl⟩ (fun H locs hPz11 hW hS => ?_)
  refine W.eq (g2 := F0 m 8 ls []) rfl ?_
  refine lv_aload_n hx hb dL_load_8 rfl (lv_at hl 0 rfl) ?_
  replace hf := obE hf
  obtain ⟨z15, hz15, hf⟩ := hf
  obtain ⟨r17, S16, n18⟩ := z15
  replace hf := ltE (ltE (ltE hf r17 rfl) S16 rfl) n18 rfl
  refine x_acallV (As := []) (rest := []) (S1 := S16) (n1 := n18) (o := (fun _ => some (.int r17))) (P := (fun _ => True)) hC hl.1 hW hS hGs hA g8 rfl (show vwCl[9]? = some (RX10, TX10, 11) ∧ ob 9 from ⟨rfl, by decide⟩) (c_X10_load l g ad5 n4 K6 H.size F S12 p0 g8 r17 S16 n18 hz15) (cwV 0 hts gL_load_X10_load rfl rfl rfl (by decide +kernel) ⟨Nat.le_of_ble_eq_true rfl, Nat.le_of_ble_eq_true rfl⟩) rfl (by rw [g9] <;> rfl) (Nat.le_of_ble_eq_true rfl) dL_load_9 ⟨(Nat.le_of_ble_eq_true rfl), (Nat.le_of_ble_eq_true rfl)⟩ (fun ad19 K20 H locs hag21 hPz15 hW hS => ?_)
  have g22 := hag21.t g8
  have g23 := hag21.e g8 g9
  have ag24 := (ag10).tr hag21
  refine W.widen (k := 167) (n := 147676) (by omega) (by omega) ?_
  refine W.eq (g2 := F0 m 12 ls [.int r17]) rfl ?_
  refine lv_aload_n hx hb dL_load_12 rfl (lv_at hl 1 rfl) ?_
  replace hf := obE hf
  obtain ⟨z25, hz25, hf⟩ := hf
  obtain ⟨r27, S26⟩ := z25
  replace hf := ltE (ltE hf r27 rfl) S26 rfl
  refine x_callS (As := [.ref (gen g 98)]) (rest := [.int r17]) (o := (some (.int r27))) (S1 := S26) hC hl.1 hW hS hGs hA (c_L_users l g ad19 n18 K20 H.size F S16 p1 tp1 r27 S26 hz25) (va_cwS 1 hts gL_load_L_users rfl rfl rfl (by decide +kernel) ⟨Nat.le_of_ble_eq_true rfl, Nat.le_of_ble_eq_true rfl⟩) rfl rfl (Nat.le_of_ble_eq_true rfl) dL_load_13 ⟨Nat.le_of_ble_eq_true rfl, Nat.le_of_ble_eq_true rfl⟩ (fun H locs hPz25 hW hS => ?_)
  refine W.eq (g2 := F0 m 16 ls [.int r27, .int r17]) rfl ?_
  refine lv_icmp_ne (tgt := 69) hx hb dL_load_16 (by decide) (fun c29 => ?_) (fun c29 => ?_)
  · replace hf := ifT c29 hf
    refine lv_iconst (v := 0) hx hb dL_load_69 (by decide) ?_
    obtain ⟨e1, e2, e3⟩ := so3 hf
    subst e1
    subst e2
    subst e3
    exact W.zret (v := 0) hx hb hr rfl (fun t ht hWm => ⟨⟨ad19, K20, rfl, ag24, trivial, by rw [ht]; exact hW⟩, hS.F ht⟩) hS.2.2 dL_load_70 hlk
  · replace hf := ifF (fun q => q c29) hf
    refine lv_aload_n hx hb dL_load_19 rfl (lv_at hl 0 rfl) ?_
    replace hf := obE hf
    obtain ⟨z30, hz30, hf⟩ := hf
    obtain ⟨r32, S31⟩ := z30
    replace hf := ltE (ltE hf r32 rfl) S31 rfl
    refine x_callV (As := []) (rest := []) (o := (some (.int r32))) (S1 := S31) hC hl.1 hW hS hGs hA g22 rfl (show vwCl[9]? = some (RX10, TX10, 11) ∧ ob 9 from ⟨rfl, by decide⟩) (c_X10_errorCode l g ad19 n18 K20 H.size F S26 p0 g22 r32 S31 hz30) (cwV 0 hts gL_load_X10_errorCode rfl rfl rfl (by decide +kernel) ⟨Nat.le_of_ble_eq_true rfl, Nat.le_of_ble_eq_true rfl⟩) rfl (by rw [g23] <;> rfl) (Nat.le_of_ble_eq_true rfl) dL_load_20 ⟨Nat.le_of_ble_eq_true rfl, Nat.le_of_ble_eq_true rfl⟩ (fun H locs hPz30 hW hS => ?_)
    refine W.eq (g2 := F0 m 23 ls [.int r32]) rfl ?_
    refine lv_if_ne (tgt := 69) hx hb dL_load_23 (by decide) (fun c34 => ?_) (fun c34 => ?_)
    · replace hf := ifT c34 hf
      refine lv_iconst (v := 0) hx hb dL_load_69 (by decide) ?_
      obtain ⟨e1, e2, e3⟩ := so3 hf
      subst e1
      subst e2
      subst e3
      exact W.zret (v := 0) hx hb hr rfl (fun t ht hWm => ⟨⟨ad19, K20, rfl, ag24, trivial, by rw [ht]; exact hW⟩, hS.F ht⟩) hS.2.2 dL_load_70 hlk
    · replace hf := ifF (fun q => q c34) hf
      refine lv_aload_n hx hb dL_load_26 rfl (lv_at hl 0 rfl) ?_
      replace hf := obE hf
      obtain ⟨z35, hz35, hf⟩ := hf
      obtain ⟨r37, S36⟩ := z35
      replace hf := ltE (ltE hf r37 rfl) S36 rfl
      refine x_callV (As := []) (rest := []) (o := (some (.int r37))) (S1 := S36) hC hl.1 hW hS hGs hA g22 rfl (show vwCl[9]? = some (RX10, TX10, 11) ∧ ob 9 from ⟨rfl, by decide⟩) (c_X10_errorPosition l g ad19 n18 K20 H.size F S31 p0 g22 r37 S36 hz35) (cwV 0 hts gL_load_X10_errorPosition rfl rfl rfl (by decide +kernel) ⟨Nat.le_of_ble_eq_true rfl, Nat.le_of_ble_eq_true rfl⟩) rfl (by rw [g23] <;> rfl) (Nat.le_of_ble_eq_true rfl) dL_load_27 ⟨Nat.le_of_ble_eq_true rfl, Nat.le_of_ble_eq_true rfl⟩ (fun H locs hPz35 hW hS => ?_)
      refine W.eq (g2 := F0 m 30 ls [.int r37]) rfl ?_
      refine lv_iconst (v := -1) hx hb dL_load_30 (by decide) ?_
      refine lv_icmp_ne (tgt := 69) hx hb dL_load_31 (by decide) (fun c39 => ?_) (fun c39 => ?_)
      · replace hf := ifT c39 hf
        refine lv_iconst (v := 0) hx hb dL_load_69 (by decide) ?_
        obtain ⟨e1, e2, e3⟩ := so3 hf
        subst e1
        subst e2
        subst e3
        exact W.zret (v := 0) hx hb hr rfl (fun t ht hWm => ⟨⟨ad19, K20, rfl, ag24, trivial, by rw [ht]; exact hW⟩, hS.F ht⟩) hS.2.2 dL_load_70 hlk
      · replace hf := ifF (fun q => q c39) hf
        refine lv_aload_n hx hb dL_load_34 rfl (lv_at hl 0 rfl) ?_
        refine lv_iconst (v := 0) hx hb dL_load_35 (by decide) ?_
        replace hf := obE hf
        obtain ⟨z40, hz40, hf⟩ := hf
        obtain ⟨oz40, S41⟩ := z40
        replace hf := ltE hf S41 rfl
        cases oz40 with
        | inl x =>
          replace hf := smL rfl hf
          cases hf
        | inr r42 =>
          replace hf := smR rfl hf
          refine x_callV (As := [.int 0]) (rest := []) (o := (some (.int r42))) (S1 := S41) (P := True) hC hl.1 hW hS hGs hA g22 rfl (show vwCl[9]? = some (RX10, TX10, 11) ∧ ob 9 from ⟨rfl, by decide⟩) (c_X10_count l g ad19 n18 K20 H.size F S36 p0 ((0 : Int32)) g22 r42 S41 hz40) (cwV 1 hts gL_load_X10_count rfl rfl rfl (by decide +kernel) ⟨Nat.le_of_ble_eq_true rfl, Nat.le_of_ble_eq_true rfl⟩) rfl (by rw [g23] <;> rfl) (Nat.le_of_ble_eq_true rfl) dL_load_36 ⟨Nat.le_of_ble_eq_true rfl, Nat.le_of_ble_eq_true rfl⟩ (fun H locs hPz40 hW hS => ?_)
          refine W.eq (g2 := F0 m 39 ls [.int r42]) rfl ?_
          refine lv_aload_n hx hb dL_load_39 rfl (lv_at hl 1 rfl) ?_
          replace hf := obE hf
          obtain ⟨z44, hz44, hf⟩ := hf
          obtain ⟨r46, S45⟩ := z44
          replace hf := ltE (ltE hf r46 rfl) S45 rfl
          refine x_callS (As := [.ref (gen g 98)]) (rest := [.int r42]) (o := (some (.int r46))) (S1 := S45) hC hl.1 hW hS hGs hA (c_L_classes l g ad19 n18 K20 H.size F S41 p1 tp1 r46 S45 hz44) (va_cwS 1 hts gL_load_L_classes rfl rfl rfl (by decide +kernel) ⟨Nat.le_of_ble_eq_true rfl, Nat.le_of_ble_eq_true rfl⟩) rfl rfl (Nat.le_of_ble_eq_true rfl) dL_load_40 ⟨Nat.le_of_ble_eq_true rfl, Nat.le_of_ble_eq_true rfl⟩ (fun H locs hPz44 hW hS => ?_)
          refine W.eq (g2 := F0 m 43 ls [.int r46, .int r42]) rfl ?_
          refine lv_icmp_ne (tgt := 69) hx hb dL_load_43 (by decide) (fun c48 => ?_) (fun c48 => ?_)
          · replace hf := ifT c48 hf
            refine lv_iconst (v := 0) hx hb dL_load_69 (by decide) ?_
            obtain ⟨e1, e2, e3⟩ := so3 hf
            subst e1
            subst e2
            subst e3
            exact W.zret (v := 0) hx hb hr rfl (fun t ht hWm => ⟨⟨ad19, K20, rfl, ag24, trivial, by rw [ht]; exact hW⟩, hS.F ht⟩) hS.2.2 dL_load_70 hlk
          · replace hf := ifF (fun q => q c48) hf
            refine lv_aload_n hx hb dL_load_46 rfl (lv_at hl 0 rfl) ?_
            refine lv_iconst (v := 3) hx hb dL_load_47 (by decide) ?_
            replace hf := obE hf
            obtain ⟨z49, hz49, hf⟩ := hf
            obtain ⟨oz49, S50⟩ := z49
            replace hf := ltE hf S50 rfl
            cases oz49 with
            | inl x =>
              replace hf := smL rfl hf
              cases hf
            | inr r51 =>
              replace hf := smR rfl hf
              refine x_callV (As := [.int 3]) (rest := []) (o := (some (.int r51))) (S1 := S50) (P := True) hC hl.1 hW hS hGs hA g22 rfl (show vwCl[9]? = some (RX10, TX10, 11) ∧ ob 9 from ⟨rfl, by decide⟩) (c_X10_count l g ad19 n18 K20 H.size F S45 p0 ((3 : Int32)) g22 r51 S50 hz49) (cwV 1 hts gL_load_X10_count rfl rfl rfl (by decide +kernel) ⟨Nat.le_of_ble_eq_true rfl, Nat.le_of_ble_eq_true rfl⟩) rfl (by rw [g23] <;> rfl) (Nat.le_of_ble_eq_true rfl) dL_load_48 ⟨Nat.le_of_ble_eq_true rfl, Nat.le_of_ble_eq_true rfl⟩ (fun H locs hPz49 hW hS => ?_)
              refine W.eq (g2 := F0 m 51 ls [.int r51]) rfl ?_
              refine lv_aload_n hx hb dL_load_51 rfl (lv_at hl 1 rfl) ?_
              replace hf := obE hf
              obtain ⟨z53, hz53, hf⟩ := hf
              obtain ⟨r55, S54⟩ := z53
              replace hf := ltE (ltE hf r55 rfl) S54 rfl
              refine x_callS (As := [.ref (gen g 98)]) (rest := [.int r51]) (o := (some (.int r55))) (S1 := S54) hC hl.1 hW hS hGs hA (c_L_holds l g ad19 n18 K20 H.size F S50 p1 tp1 r55 S54 hz53) (va_cwS 1 hts gL_load_L_holds rfl rfl rfl (by decide +kernel) ⟨Nat.le_of_ble_eq_true rfl, Nat.le_of_ble_eq_true rfl⟩) rfl rfl (Nat.le_of_ble_eq_true rfl) dL_load_52 ⟨Nat.le_of_ble_eq_true rfl, Nat.le_of_ble_eq_true rfl⟩ (fun H locs hPz53 hW hS => ?_)
              refine W.eq (g2 := F0 m 55 ls [.int r55, .int r51]) rfl ?_
              refine lv_icmp_ne (tgt := 69) hx hb dL_load_55 (by decide) (fun c57 => ?_) (fun c57 => ?_)
              · replace hf := ifT c57 hf
                refine lv_iconst (v := 0) hx hb dL_load_69 (by decide) ?_
                obtain ⟨e1, e2, e3⟩ := so3 hf
                subst e1
                subst e2
                subst e3
                exact W.zret (v := 0) hx hb hr rfl (fun t ht hWm => ⟨⟨ad19, K20, rfl, ag24, trivial, by rw [ht]; exact hW⟩, hS.F ht⟩) hS.2.2 dL_load_70 hlk
              · replace hf := ifF (fun q => q c57) hf
                refine lv_aload_n hx hb dL_load_58 rfl (lv_at hl 0 rfl) ?_
                replace hf := obE hf
                obtain ⟨z58, hz58, hf⟩ := hf
                obtain ⟨r60, S59⟩ := z58
                replace hf := ltE (ltE hf r60 rfl) S59 rfl
                refine x_callV (As := []) (rest := []) (o := (some (.int r60))) (S1 := S59) hC hl.1 hW hS hGs hA g22 rfl (show vwCl[9]? = some (RX10, TX10, 11) ∧ ob 9 from ⟨rfl, by decide⟩) (c_X10_day l g ad19 n18 K20 H.size F S54 p0 g22 r60 S59 hz58) (cwV 0 hts gL_load_X10_day rfl rfl rfl (by decide +kernel) ⟨Nat.le_of_ble_eq_true rfl, Nat.le_of_ble_eq_true rfl⟩) rfl (by rw [g23] <;> rfl) (Nat.le_of_ble_eq_true rfl) dL_load_59 ⟨Nat.le_of_ble_eq_true rfl, Nat.le_of_ble_eq_true rfl⟩ (fun H locs hPz58 hW hS => ?_)
                refine W.eq (g2 := F0 m 62 ls [.int r60]) rfl ?_
                refine lv_if_ne (tgt := 69) hx hb dL_load_62 (by decide) (fun c62 => ?_) (fun c62 => ?_)
                · replace hf := ifT c62 hf
                  refine lv_iconst (v := 0) hx hb dL_load_69 (by decide) ?_
                  obtain ⟨e1, e2, e3⟩ := so3 hf
                  subst e1
                  subst e2
                  subst e3
                  exact W.zret (v := 0) hx hb hr rfl (fun t ht hWm => ⟨⟨ad19, K20, rfl, ag24, trivial, by rw [ht]; exact hW⟩, hS.F ht⟩) hS.2.2 dL_load_70 hlk
                · replace hf := ifF (fun q => q c62) hf
                  refine lv_iconst (v := 1) hx hb dL_load_65 (by decide) ?_
                  refine lv_goto (tgt := 70) hx hb dL_load_66 (by decide) ?_
                  obtain ⟨e1, e2, e3⟩ := so3 hf
                  subst e1
                  subst e2
                  subst e3
                  exact W.zret (v := 1) hx hb hr rfl (fun t ht hWm => ⟨⟨ad19, K20, rfl, ag24, trivial, by rw [ht]; exact hW⟩, hS.F ht⟩) hS.2.2 dL_load_70 hlk
set_option maxHeartbeats 4000000 in
set_option maxRecDepth 100000 in
theorem c_L_parts (l : Launch) (g : GP) (ad : Nat → Nat) (n : Nat) (K : Nat → Nat) (sz F : Nat) (S0 : St) (p0 : XS) (p1 : Int32) (tp0 : p0 = gX g) (r9 : Int32) (S9 : St) (hf : f_L_parts F S0 p0 p1 = some (r9, S9)) : Met l yL_parts wsL_parts { frames := 1, cells := 0, slots := 0, locals := 22 } (va_Pc [.ref (gen g 98), .int p1] (PB g ad n K S0 sz)) (QR (some (.int r9)) (QB g ad n K S9 (dA ad n sz) (True)) (dA ad n sz)) 0 0 (dA ad n sz) := by
  refine Met.ofW (cc := cL_parts) (maxL := 2) (ret := (some .int)) (by decide) rfl ?_
  intro p e s m args below meth c s₁ B hml hv
  obtain ⟨rfl, hsz, hW, hK, hGs⟩ := x_start hv
  subst hsz
  have hx := B.exec
  have hb := B.bytes
  have hr := B.returns
  have hts := atoms_spec (ws := wsL_parts) B.pre
  have hown : s.vm.findClass RL = some m.cls := findClass_of_methodNamed B.named
  have hlk := B.notSynchronized
  have hC : Cx g p s m _ c cL_parts RL wsL_parts 2 := ⟨hx, hb, hml, hown, hts, hK⟩
  have hA : ∀ q : Nat, s.heap.size ≤ q → dA ad n s.heap.size q := fun q h => Or.inr h
  have hS : va_S (dA ad n s.heap.size) s.heap s.heap [] := va_S.rf
  have hl := lv_entry ([.ref (gen g 98), .int p1]) (n := 2) (Nat.le_of_ble_eq_true rfl)
  rw [lg_entry_eq]
  generalize (lg_sl ([.ref (gen g 98), .int p1]) ++ List.replicate (2 - (lg_sl ([.ref (gen g 98), .int p1])).length) Slot.unset).toArray = ls at hl ⊢
  have hl : lv_has ls 2 [(0, .ref (gen g 98)), (1, .int p1)] := hl
  have hGE := hGs.2.2.2.1
  have hGM := hGs.2.2.2.2
  unfold f_L_parts at hf
  refine lv_iconst (v := 1) hx hb dL_parts_0 (by decide) ?_
  refine lv_aload_n hx hb dL_parts_1 rfl (lv_at hl 0 rfl) ?_
  refine lv_bipush (v := 60) hx hb dL_parts_2 (by decide) ?_
  refine lv_bipush (v := 8) hx hb dL_parts_4 (by decide) ?_
  refine lv_iload_n hx hb dL_parts_6 rfl (lv_at hl 1 rfl) ?_
  refine lv_imul hx hb dL_parts_7 ?_
  refine lv_iadd hx hb dL_parts_8 ?_
  refine lv_iconst (v := 3) hx hb dL_parts_9 (by decide) ?_
  replace hf := obE hf
  obtain ⟨z1, hz1, hf⟩ := hf
  obtain ⟨r3, S2⟩ := z1
  replace hf := ltE (ltE hf r3 rfl) S2 rfl
  refine x_callS (As := [.ref (gen g 98), .int (60 + (8 * p1)), .int 3]) (rest := [.int 1]) (o := (some (.int r3))) (S1 := S2) hC hl.1 hW hS hGs hA (c_L_draw l g ad n K s.heap.size F S0 p0 (60 + (8 * p1)) ((3 : Int32)) tp0 r3 S2 hz1) (va_cwS 3 hts gL_parts_L_draw rfl rfl rfl (by decide +kernel) ⟨Nat.le_of_ble_eq_true rfl, Nat.le_of_ble_eq_true rfl⟩) rfl rfl (Nat.le_of_ble_eq_true rfl) dL_parts_10 ⟨Nat.le_of_ble_eq_true rfl, Nat.le_of_ble_eq_true rfl⟩ (fun H locs hPz1 hW hS => ?_)
  refine W.eq (g2 := F0 m 13 ls [.int r3, .int 1]) rfl ?_
  refine lv_iadd hx hb dL_parts_13 ?_
  obtain ⟨e1, e2⟩ := so2 hf
  subst e1
  subst e2
  exact W.iret (v := 1 + r3) hx hb hr (fun t ht hWm => ⟨⟨rfl, by unfold QB; rw [ht]; exact ⟨hW, trivial⟩⟩, hS.F ht⟩) hS.2.2 dL_parts_14 hlk
set_option maxHeartbeats 4000000 in
set_option maxRecDepth 100000 in
theorem c_L_sort (l : Launch) (g : GP) (ad : Nat → Nat) (n : Nat) (K : Nat → Nat) (sz F : Nat) (S0 : St) (p0 : XS) (p1 : Int32) (p2 : Int32) (tp0 : p0 = gX g) (r9 : Int32) (S9 : St) (hf : f_L_sort F S0 p0 p1 p2 = some (r9, S9)) : Met l yL_sort wsL_sort { frames := 1, cells := 0, slots := 0, locals := 22 } (va_Pc [.ref (gen g 98), .int p1, .int p2] (PB g ad n K S0 sz)) (QR (some (.int r9)) (QB g ad n K S9 (dA ad n sz) (True)) (dA ad n sz)) 0 0 (dA ad n sz) := by
  refine Met.ofW (cc := cL_sort) (maxL := 3) (ret := (some .int)) (by decide) rfl ?_
  intro p e s m args below meth c s₁ B hml hv
  obtain ⟨rfl, hsz, hW, hK, hGs⟩ := x_start hv
  subst hsz
  have hx := B.exec
  have hb := B.bytes
  have hr := B.returns
  have hts := atoms_spec (ws := wsL_sort) B.pre
  have hown : s.vm.findClass RL = some m.cls := findClass_of_methodNamed B.named
  have hlk := B.notSynchronized
  have hC : Cx g p s m _ c cL_sort RL wsL_sort 3 := ⟨hx, hb, hml, hown, hts, hK⟩
  have hA : ∀ q : Nat, s.heap.size ≤ q → dA ad n s.heap.size q := fun q h => Or.inr h
  have hS : va_S (dA ad n s.heap.size) s.heap s.heap [] := va_S.rf
  have hl := lv_entry ([.ref (gen g 98), .int p1, .int p2]) (n := 3) (Nat.le_of_ble_eq_true rfl)
  rw [lg_entry_eq]
  generalize (lg_sl ([.ref (gen g 98), .int p1, .int p2]) ++ List.replicate (3 - (lg_sl ([.ref (gen g 98), .int p1, .int p2])).length) Slot.unset).toArray = ls at hl ⊢
  have hl : lv_has ls 3 [(0, .ref (gen g 98)), (1, .int p1), (2, .int p2)] := hl
  have hGE := hGs.2.2.2.1
  have hGM := hGs.2.2.2.2
  unfold f_L_sort at hf
  refine lv_aload_n hx hb dL_sort_0 rfl (lv_at hl 0 rfl) ?_
  refine lv_bipush (v := 61) hx hb dL_sort_1 (by decide) ?_
  refine lv_bipush (v := 8) hx hb dL_sort_3 (by decide) ?_
  refine lv_iload_n hx hb dL_sort_5 rfl (lv_at hl 1 rfl) ?_
  refine lv_imul hx hb dL_sort_6 ?_
  refine lv_iadd hx hb dL_sort_7 ?_
  refine lv_iload_n hx hb dL_sort_8 rfl (lv_at hl 2 rfl) ?_
  refine lv_iadd hx hb dL_sort_9 ?_
  refine lv_bipush (v := 6) hx hb dL_sort_10 (by decide) ?_
  replace hf := obE hf
  obtain ⟨z1, hz1, hf⟩ := hf
  obtain ⟨r3, S2⟩ := z1
  replace hf := ltE (ltE hf r3 rfl) S2 rfl
  refine x_callS (As := [.ref (gen g 98), .int ((61 + (8 * p1)) + p2), .int 6]) (rest := []) (o := (some (.int r3))) (S1 := S2) hC hl.1 hW hS hGs hA (c_L_draw l g ad n K s.heap.size F S0 p0 ((61 + (8 * p1)) + p2) ((6 : Int32)) tp0 r3 S2 hz1) (va_cwS 3 hts gL_sort_L_draw rfl rfl rfl (by decide +kernel) ⟨Nat.le_of_ble_eq_true rfl, Nat.le_of_ble_eq_true rfl⟩) rfl rfl (Nat.le_of_ble_eq_true rfl) dL_sort_12 ⟨Nat.le_of_ble_eq_true rfl, Nat.le_of_ble_eq_true rfl⟩ (fun H locs hPz1 hW hS => ?_)
  refine W.eq (g2 := F0 m 15 ls [.int r3]) rfl ?_
  obtain ⟨e1, e2⟩ := so2 hf
  subst e1
  subst e2
  exact W.iret (v := r3) hx hb hr (fun t ht hWm => ⟨⟨rfl, by unfold QB; rw [ht]; exact ⟨hW, trivial⟩⟩, hS.F ht⟩) hS.2.2 dL_sort_15 hlk
set_option maxHeartbeats 4000000 in
set_option maxRecDepth 100000 in
theorem c_L_part (l : Launch) (g : GP) (ad : Nat → Nat) (n : Nat) (K : Nat → Nat) (sz F : Nat) (S0 : St) (p0 : Int32) (r9 : Nat) (S9 : St) (hf : f_L_part F S0 p0 = some (r9, S9)) : Met l yL_part wsL_part { frames := 0, cells := 0, slots := 0, locals := 0 } (va_Pc [.int p0] (PB g ad n K S0 sz)) (QR (some (.ref (sad g ad r9))) (QB g ad n K S9 (dA ad n sz) (tS 18 n K r9)) (dA ad n sz)) 0 0 (dA ad n sz) := by
  refine Met.ofW (cc := cL_part) (maxL := 1) (ret := (some (.object "java/lang/String"))) (by decide) rfl ?_
  intro p e s m args below meth c s₁ B hml hv
  obtain ⟨rfl, hsz, hW, hK, hGs⟩ := x_start hv
  subst hsz
  have hx := B.exec
  have hb := B.bytes
  have hr := B.returns
  have hts := atoms_spec (ws := wsL_part) B.pre
  have hown : s.vm.findClass RL = some m.cls := findClass_of_methodNamed B.named
  have hlk := B.notSynchronized
  have hC : Cx g p s m _ c cL_part RL wsL_part 1 := ⟨hx, hb, hml, hown, hts, hK⟩
  have hA : ∀ q : Nat, s.heap.size ≤ q → dA ad n s.heap.size q := fun q h => Or.inr h
  have hS : va_S (dA ad n s.heap.size) s.heap s.heap [] := va_S.rf
  have hl := lv_entry ([.int p0]) (n := 1) (Nat.le_of_ble_eq_true rfl)
  rw [lg_entry_eq]
  generalize (lg_sl ([.int p0]) ++ List.replicate (1 - (lg_sl ([.int p0])).length) Slot.unset).toArray = ls at hl ⊢
  have hl : lv_has ls 1 [(0, .int p0)] := hl
  have hGE := hGs.2.2.2.1
  have hGM := hGs.2.2.2.2
  unfold f_L_part at hf
  refine lv_iload_n hx hb dL_part_0 rfl (lv_at hl 0 rfl) ?_
  by_cases c1 : p0 = 0
  · replace hf := ifT c1 hf
    refine lv_tableIn (tgt := 36) hx hb dL_part_1 (by rw [c1]; decide) (by rw [c1]; decide) (by rw [c1]; rfl) (by decide) ?_
    refine x_ldcM 15 (tx := "ab") hC hGM ⟨rfl, by decide⟩ dL_part_36 ?_
    obtain ⟨e1, e2⟩ := so2 hf
    subst e1
    subst e2
    exact W.aret hx hb hr (Or.inl ⟨_, rfl⟩) (Or.inr ⟨_, rfl⟩) (fun t ht hWm => ⟨⟨rfl, by unfold QB; rw [ht]; exact ⟨hW, (tS_c (by decide))⟩⟩, hS.F ht⟩) hS.2.2 dL_part_38 hlk
  · replace hf := ifF c1 hf
    by_cases c2 : p0 = 1
    · replace hf := ifT c2 hf
      refine lv_tableIn (tgt := 39) hx hb dL_part_1 (by rw [c2]; decide) (by rw [c2]; decide) (by rw [c2]; rfl) (by decide) ?_
      refine x_ldcM 16 (tx := "ab cd") hC hGM ⟨rfl, by decide⟩ dL_part_39 ?_
      obtain ⟨e1, e2⟩ := so2 hf
      subst e1
      subst e2
      exact W.aret hx hb hr (Or.inl ⟨_, rfl⟩) (Or.inr ⟨_, rfl⟩) (fun t ht hWm => ⟨⟨rfl, by unfold QB; rw [ht]; exact ⟨hW, (tS_c (by decide))⟩⟩, hS.F ht⟩) hS.2.2 dL_part_41 hlk
    · replace hf := ifF c2 hf
      by_cases c3 : p0 = 2
      · replace hf := ifT c3 hf
        refine lv_tableIn (tgt := 42) hx hb dL_part_1 (by rw [c3]; decide) (by rw [c3]; decide) (by rw [c3]; rfl) (by decide) ?_
        refine x_ldcM 17 (tx := "cdab") hC hGM ⟨rfl, by decide⟩ dL_part_42 ?_
        obtain ⟨e1, e2⟩ := so2 hf
        subst e1
        subst e2
        exact W.aret hx hb hr (Or.inl ⟨_, rfl⟩) (Or.inr ⟨_, rfl⟩) (fun t ht hWm => ⟨⟨rfl, by unfold QB; rw [ht]; exact ⟨hW, (tS_c (by decide))⟩⟩, hS.F ht⟩) hS.2.2 dL_part_44 hlk
      · replace hf := ifF c3 hf
        by_cases c4 : p0 = 3
        · replace hf := ifT c4 hf
          refine lv_tableIn (tgt := 45) hx hb dL_part_1 (by rw [c4]; decide) (by rw [c4]; decide) (by rw [c4]; rfl) (by decide) ?_
          refine x_ldcM 18 (tx := "x9 ab") hC hGM ⟨rfl, by decide⟩ dL_part_45 ?_
          obtain ⟨e1, e2⟩ := so2 hf
          subst e1
          subst e2
          exact W.aret hx hb hr (Or.inl ⟨_, rfl⟩) (Or.inr ⟨_, rfl⟩) (fun t ht hWm => ⟨⟨rfl, by unfold QB; rw [ht]; exact ⟨hW, (tS_c (by decide))⟩⟩, hS.F ht⟩) hS.2.2 dL_part_47 hlk
        · replace hf := ifF c4 hf
          by_cases c5 : p0 = 4
          · replace hf := ifT c5 hf
            refine lv_tableIn (tgt := 48) hx hb dL_part_1 (by rw [c5]; decide) (by rw [c5]; decide) (by rw [c5]; rfl) (by decide) ?_
            refine x_ldcM 19 (tx := "zz zz zz") hC hGM ⟨rfl, by decide⟩ dL_part_48 ?_
            obtain ⟨e1, e2⟩ := so2 hf
            subst e1
            subst e2
            exact W.aret hx hb hr (Or.inl ⟨_, rfl⟩) (Or.inr ⟨_, rfl⟩) (fun t ht hWm => ⟨⟨rfl, by unfold QB; rw [ht]; exact ⟨hW, (tS_c (by decide))⟩⟩, hS.F ht⟩) hS.2.2 dL_part_50 hlk
          · replace hf := ifF c5 hf
            refine lv_tableOut (tgt := 51) hx hb dL_part_1 (sw_out5 c1 c2 c3 c4 c5) (by decide) ?_
            refine x_ldcM 20 (tx := "q") hC hGM ⟨rfl, by decide⟩ dL_part_51 ?_
            obtain ⟨e1, e2⟩ := so2 hf
            subst e1
            subst e2
            exact W.aret hx hb hr (Or.inl ⟨_, rfl⟩) (Or.inr ⟨_, rfl⟩) (fun t ht hWm => ⟨⟨rfl, by unfold QB; rw [ht]; exact ⟨hW, (tS_c (by decide))⟩⟩, hS.F ht⟩) hS.2.2 dL_part_53 hlk
set_option maxHeartbeats 4000000 in
set_option maxRecDepth 100000 in
theorem c_L_hasAb (l : Launch) (g : GP) (ad : Nat → Nat) (n : Nat) (K : Nat → Nat) (sz F : Nat) (S0 : St) (p0 : XS) (p1 : Int32) (tp0 : p0 = gX g) (r9 : Int32) (S9 : St) (hf : f_L_hasAb F S0 p0 p1 = some (r9, S9)) : Met l yL_hasAb wsL_hasAb { frames := 2, cells := 0, slots := 0, locals := 44 } (va_Pc [.ref (gen g 98), .int p1] (PB g ad n K S0 sz)) (QR (some (.int r9)) (QB g ad n K S9 (dA ad n sz) (True)) (dA ad n sz)) 0 0 (dA ad n sz) := by
  refine Met.ofW (cc := cL_hasAb) (maxL := 3) (ret := (some .boolean)) (by decide) rfl ?_
  intro p e s m args below meth c s₁ B hml hv
  obtain ⟨rfl, hsz, hW, hK, hGs⟩ := x_start hv
  subst hsz
  have hx := B.exec
  have hb := B.bytes
  have hr := B.returns
  have hts := atoms_spec (ws := wsL_hasAb) B.pre
  have hown : s.vm.findClass RL = some m.cls := findClass_of_methodNamed B.named
  have hlk := B.notSynchronized
  have hC : Cx g p s m _ c cL_hasAb RL wsL_hasAb 3 := ⟨hx, hb, hml, hown, hts, hK⟩
  have hA : ∀ q : Nat, s.heap.size ≤ q → dA ad n s.heap.size q := fun q h => Or.inr h
  have hS : va_S (dA ad n s.heap.size) s.heap s.heap [] := va_S.rf
  have hl := lv_entry ([.ref (gen g 98), .int p1]) (n := 3) (Nat.le_of_ble_eq_true rfl)
  rw [lg_entry_eq]
  generalize (lg_sl ([.ref (gen g 98), .int p1]) ++ List.replicate (3 - (lg_sl ([.ref (gen g 98), .int p1])).length) Slot.unset).toArray = ls at hl ⊢
  have hl : lv_has ls 3 [(0, .ref (gen g 98)), (1, .int p1)] := hl
  have hGE := hGs.2.2.2.1
  have hGM := hGs.2.2.2.2
  have L2 : ∀ (fu2 : Nat) (S0 : St) (v0 : XS) (v1 : Int32) (v2 : Int32) (tv0 : v0 = gX g) (H : Heap) (locs : List Loc) (ls : Array Slot), f_L_hasAb_L2 F fu2 S0 v0 v1 v2 = some (r9, S9) → Wb g ad n K S0 (dA ad n s.heap.size) H → va_S (dA ad n s.heap.size) s.heap H locs → lv_has ls 3 [(0, .ref (gen g 98)), (1, .int v1), (2, .int v2)] → W p l e (headSpec wsL_hasAb { frames := 2, cells := 0, slots := 0, locals := 44 }).room s m (List.toArray [.ref (gen g 98), .int p1]) below meth c H locs 0 0 (MQ below (QR (some (.int r9)) (QB g ad n K S9 (dA ad n s.heap.size) (True)) (dA ad n s.heap.size)) (List.toArray [.ref (gen g 98), .int p1]) s 0 0 (dA ad n s.heap.size)) (F0 m 2 ls []) := by
    intro fu2
    induction fu2 with
    | zero =>
      intro S0 v0 v1 v2 tv0 H locs ls hf
      cases hf
    | succ fu2 ih2 =>
      intro S0 v0 v1 v2 tv0 H locs ls hf hW hS hl
      unfold f_L_hasAb_L2 at hf
      refine lv_iload_n hx hb dL_hasAb_2 rfl (lv_at hl 2 rfl) ?_
      refine lv_aload_n hx hb dL_hasAb_3 rfl (lv_at hl 0 rfl) ?_
      refine lv_iload_n hx hb dL_hasAb_4 rfl (lv_at hl 1 rfl) ?_
      replace hf := obE hf
      obtain ⟨z22, hz22, hf⟩ := hf
      obtain ⟨r24, S23⟩ := z22
      replace hf := ltE (ltE hf r24 rfl) S23 rfl
      refine x_callS (As := [.ref (gen g 98), .int v1]) (rest := [.int v2]) (o := (some (.int r24))) (S1 := S23) hC hl.1 hW hS hGs hA (c_L_parts l g ad n K H.size F S0 v0 v1 tv0 r24 S23 hz22) (va_cwS 2 hts gL_hasAb_L_parts rfl rfl rfl (by decide +kernel) ⟨Nat.le_of_ble_eq_true rfl, Nat.le_of_ble_eq_true rfl⟩) rfl rfl (Nat.le_of_ble_eq_true rfl) dL_hasAb_5 ⟨Nat.le_of_ble_eq_true rfl, Nat.le_of_ble_eq_true rfl⟩ (fun H locs hPz22 hW hS => ?_)
      refine W.eq (g2 := F0 m 8 ls [.int r24, .int v2]) rfl ?_
      refine lv_icmp_ge (tgt := 48) hx hb dL_hasAb_8 (by decide) (fun c26 => ?_) (fun c26 => ?_)
      · replace hf := ifT c26 hf
        refine lv_iconst (v := 0) hx hb dL_hasAb_48 (by decide) ?_
        obtain ⟨e1, e2⟩ := so2 hf
        subst e1
        subst e2
        exact W.zret (v := 0) hx hb hr rfl (fun t ht hWm => ⟨⟨rfl, by unfold QB; rw [ht]; exact ⟨hW, trivial⟩⟩, hS.F ht⟩) hS.2.2 dL_hasAb_49 hlk
      · replace hf := ifF c26 hf
        refine lv_aload_n hx hb dL_hasAb_11 rfl (lv_at hl 0 rfl) ?_
        refine lv_iload_n hx hb dL_hasAb_12 rfl (lv_at hl 1 rfl) ?_
        refine lv_iload_n hx hb dL_hasAb_13 rfl (lv_at hl 2 rfl) ?_
        replace hf := obE hf
        obtain ⟨z27, hz27, hf⟩ := hf
        obtain ⟨r29, S28⟩ := z27
        replace hf := ltE (ltE hf r29 rfl) S28 rfl
        refine x_callS (As := [.ref (gen g 98), .int v1, .int v2]) (rest := []) (o := (some (.int r29))) (S1 := S28) hC hl.1 hW hS hGs hA (c_L_sort l g ad n K H.size F S23 v0 v1 v2 tv0 r29 S28 hz27) (va_cwS 3 hts gL_hasAb_L_sort rfl rfl rfl (by decide +kernel) ⟨Nat.le_of_ble_eq_true rfl, Nat.le_of_ble_eq_true rfl⟩) rfl rfl (Nat.le_of_ble_eq_true rfl) dL_hasAb_14 ⟨Nat.le_of_ble_eq_true rfl, Nat.le_of_ble_eq_true rfl⟩ (fun H locs hPz27 hW hS => ?_)
        refine W.eq (g2 := F0 m 17 ls [.int r29]) rfl ?_
        refine lv_if_eq (tgt := 40) hx hb dL_hasAb_17 (by decide) (fun c31 => ?_) (fun c31 => ?_)
        · replace hf := ifT c31 hf
          refine lv_iconst (v := 1) hx hb dL_hasAb_40 (by decide) ?_
          obtain ⟨e1, e2⟩ := so2 hf
          subst e1
          subst e2
          exact W.zret (v := 1) hx hb hr rfl (fun t ht hWm => ⟨⟨rfl, by unfold QB; rw [ht]; exact ⟨hW, trivial⟩⟩, hS.F ht⟩) hS.2.2 dL_hasAb_41 hlk
        · replace hf := ifF c31 hf
          refine lv_aload_n hx hb dL_hasAb_20 rfl (lv_at hl 0 rfl) ?_
          refine lv_iload_n hx hb dL_hasAb_21 rfl (lv_at hl 1 rfl) ?_
          refine lv_iload_n hx hb dL_hasAb_22 rfl (lv_at hl 2 rfl) ?_
          replace hf := obE hf
          obtain ⟨z32, hz32, hf⟩ := hf
          obtain ⟨r34, S33⟩ := z32
          replace hf := ltE (ltE hf r34 rfl) S33 rfl
          refine x_callS (As := [.ref (gen g 98), .int v1, .int v2]) (rest := []) (o := (some (.int r34))) (S1 := S33) hC hl.1 hW hS hGs hA (c_L_sort l g ad n K H.size F S28 v0 v1 v2 tv0 r34 S33 hz32) (va_cwS 3 hts gL_hasAb_L_sort rfl rfl rfl (by decide +kernel) ⟨Nat.le_of_ble_eq_true rfl, Nat.le_of_ble_eq_true rfl⟩) rfl rfl (Nat.le_of_ble_eq_true rfl) dL_hasAb_23 ⟨Nat.le_of_ble_eq_true rfl, Nat.le_of_ble_eq_true rfl⟩ (fun H locs hPz32 hW hS => ?_)
          refine W.eq (g2 := F0 m 26 ls [.int r34]) rfl ?_
          refine lv_iconst (v := 1) hx hb dL_hasAb_26 (by decide) ?_
          refine lv_icmp_eq (tgt := 40) hx hb dL_hasAb_27 (by decide) (fun c36 => ?_) (fun c36 => ?_)
          · replace hf := ifT c36 hf
            refine lv_iconst (v := 1) hx hb dL_hasAb_40 (by decide) ?_
            obtain ⟨e1, e2⟩ := so2 hf
            subst e1
            subst e2
            exact W.zret (v := 1) hx hb hr rfl (fun t ht hWm => ⟨⟨rfl, by unfold QB; rw [ht]; exact ⟨hW, trivial⟩⟩, hS.F ht⟩) hS.2.2 dL_hasAb_41 hlk
          · replace hf := ifF c36 hf
            refine lv_aload_n hx hb dL_hasAb_30 rfl (lv_at hl 0 rfl) ?_
            refine lv_iload_n hx hb dL_hasAb_31 rfl (lv_at hl 1 rfl) ?_
            refine lv_iload_n hx hb dL_hasAb_32 rfl (lv_at hl 2 rfl) ?_
            replace hf := obE hf
            obtain ⟨z37, hz37, hf⟩ := hf
            obtain ⟨r39, S38⟩ := z37
            replace hf := ltE (ltE hf r39 rfl) S38 rfl
            refine x_callS (As := [.ref (gen g 98), .int v1, .int v2]) (rest := []) (o := (some (.int r39))) (S1 := S38) hC hl.1 hW hS hGs hA (c_L_sort l g ad n K H.size F S33 v0 v1 v2 tv0 r39 S38 hz37) (va_cwS 3 hts gL_hasAb_L_sort rfl rfl rfl (by decide +kernel) ⟨Nat.le_of_ble_eq_true rfl, Nat.le_of_ble_eq_true rfl⟩) rfl rfl (Nat.le_of_ble_eq_true rfl) dL_hasAb_33 ⟨Nat.le_of_ble_eq_true rfl, Nat.le_of_ble_eq_true rfl⟩ (fun H locs hPz37 hW hS => ?_)
            refine W.eq (g2 := F0 m 36 ls [.int r39]) rfl ?_
            refine lv_iconst (v := 3) hx hb dL_hasAb_36 (by decide) ?_
            refine lv_icmp_ne (tgt := 42) hx hb dL_hasAb_37 (by decide) (fun c41 => ?_) (fun c41 => ?_)
            · replace hf := ifT c41 hf
              obtain ⟨x42, ex42⟩ : ∃ z : Int32, z = v2 + 1 := ⟨_, rfl⟩
              replace hf := ltE hf x42 ex42
              refine lv_iinc (v := x42) (lv' := [(2, .int x42), (0, .ref (gen g 98)), (1, .int v1)]) hx hb dL_hasAb_42 hl (k := 2) rfl (by rw [ex42]; rfl) (by decide) rfl (fun ls hl => ?_)
              refine lv_goto (tgt := 2) hx hb dL_hasAb_45 (by decide) ?_
              exact ih2 S38 v0 v1 x42 tv0 _ _ _ hf hW hS (lv_sub hl [1, 2, 0] rfl)
            · replace hf := ifF (fun q => q c41) hf
              refine lv_iconst (v := 1) hx hb dL_hasAb_40 (by decide) ?_
              obtain ⟨e1, e2⟩ := so2 hf
              subst e1
              subst e2
              exact W.zret (v := 1) hx hb hr rfl (fun t ht hWm => ⟨⟨rfl, by unfold QB; rw [ht]; exact ⟨hW, trivial⟩⟩, hS.F ht⟩) hS.2.2 dL_hasAb_41 hlk
  unfold f_L_hasAb at hf
  refine lv_iconst (v := 0) hx hb dL_hasAb_0 (by decide) ?_
  refine lv_istore_n (lv' := [(2, .int 0), (0, .ref (gen g 98)), (1, .int p1)]) hx hb dL_hasAb_1 rfl hl (by decide) rfl (fun ls hl => ?_)
  exact L2 F S0 p0 p1 0 tp0 _ _ _ hf hW hS (lv_sub hl [1, 2, 0] rfl)
set_option maxHeartbeats 4000000 in
set_option maxRecDepth 100000 in
theorem c_L_size (l : Launch) (g : GP) (ad : Nat → Nat) (n : Nat) (K : Nat → Nat) (sz F : Nat) (S0 : St) (p0 : XS) (p1 : Int32) (tp0 : p0 = gX g) (r9 : Int32) (S9 : St) (hf : f_L_size F S0 p0 p1 = some (r9, S9)) : Met l yL_size wsL_size { frames := 2, cells := 0, slots := 0, locals := 44 } (va_Pc [.ref (gen g 98), .int p1] (PB g ad n K S0 sz)) (QR (some (.int r9)) (QB g ad n K S9 (dA ad n sz) (True)) (dA ad n sz)) 0 0 (dA ad n sz) := by
  refine Met.ofW (cc := cL_size) (maxL := 4) (ret := (some .int)) (by decide) rfl ?_
  intro p e s m args below meth c s₁ B hml hv
  obtain ⟨rfl, hsz, hW, hK, hGs⟩ := x_start hv
  subst hsz
  have hx := B.exec
  have hb := B.bytes
  have hr := B.returns
  have hts := atoms_spec (ws := wsL_size) B.pre
  have hown : s.vm.findClass RL = some m.cls := findClass_of_methodNamed B.named
  have hlk := B.notSynchronized
  have hC : Cx g p s m _ c cL_size RL wsL_size 4 := ⟨hx, hb, hml, hown, hts, hK⟩
  have hA : ∀ q : Nat, s.heap.size ≤ q → dA ad n s.heap.size q := fun q h => Or.inr h
  have hS : va_S (dA ad n s.heap.size) s.heap s.heap [] := va_S.rf
  have hl := lv_entry ([.ref (gen g 98), .int p1]) (n := 4) (Nat.le_of_ble_eq_true rfl)
  rw [lg_entry_eq]
  generalize (lg_sl ([.ref (gen g 98), .int p1]) ++ List.replicate (4 - (lg_sl ([.ref (gen g 98), .int p1])).length) Slot.unset).toArray = ls at hl ⊢
  have hl : lv_has ls 4 [(0, .ref (gen g 98)), (1, .int p1)] := hl
  have hGE := hGs.2.2.2.1
  have hGM := hGs.2.2.2.2
  have L4 : ∀ (fu4 : Nat) (S0 : St) (v0 : XS) (v1 : Int32) (v2 : Int32) (v3 : Int32) (tv0 : v0 = gX g) (H : Heap) (locs : List Loc) (ls : Array Slot), f_L_size_L4 F fu4 S0 v0 v1 v2 v3 = some (r9, S9) → Wb g ad n K S0 (dA ad n s.heap.size) H → va_S (dA ad n s.heap.size) s.heap H locs → lv_has ls 4 [(0, .ref (gen g 98)), (1, .int v1), (2, .int v2), (3, .int v3)] → W p l e (headSpec wsL_size { frames := 2, cells := 0, slots := 0, locals := 44 }).room s m (List.toArray [.ref (gen g 98), .int p1]) below meth c H locs 0 0 (MQ below (QR (some (.int r9)) (QB g ad n K S9 (dA ad n s.heap.size) (True)) (dA ad n s.heap.size)) (List.toArray [.ref (gen g 98), .int p1]) s 0 0 (dA ad n s.heap.size)) (F0 m 4 ls []) := by
    intro fu4
    induction fu4 with
    | zero =>
      intro S0 v0 v1 v2 v3 tv0 H locs ls hf
      cases hf
    | succ fu4 ih4 =>
      intro S0 v0 v1 v2 v3 tv0 H locs ls hf hW hS hl
      unfold f_L_size_L4 at hf
      refine lv_iload_n hx hb dL_size_4 rfl (lv_at hl 3 rfl) ?_
      refine lv_aload_n hx hb dL_size_5 rfl (lv_at hl 0 rfl) ?_
      refine lv_iload_n hx hb dL_size_6 rfl (lv_at hl 1 rfl) ?_
      replace hf := obE hf
      obtain ⟨z20, hz20, hf⟩ := hf
      obtain ⟨r22, S21⟩ := z20
      replace hf := ltE (ltE hf r22 rfl) S21 rfl
      refine x_callS (As := [.ref (gen g 98), .int v1]) (rest := [.int v3]) (o := (some (.int r22))) (S1 := S21) hC hl.1 hW hS hGs hA (c_L_parts l g ad n K H.size F S0 v0 v1 tv0 r22 S21 hz20) (va_cwS 2 hts gL_size_L_parts rfl rfl rfl (by decide +kernel) ⟨Nat.le_of_ble_eq_true rfl, Nat.le_of_ble_eq_true rfl⟩) rfl rfl (Nat.le_of_ble_eq_true rfl) dL_size_7 ⟨Nat.le_of_ble_eq_true rfl, Nat.le_of_ble_eq_true rfl⟩ (fun H locs hPz20 hW hS => ?_)
      refine W.eq (g2 := F0 m 10 ls [.int r22, .int v3]) rfl ?_
      refine lv_icmp_ge (tgt := 34) hx hb dL_size_10 (by decide) (fun c24 => ?_) (fun c24 => ?_)
      · replace hf := ifT c24 hf
        refine lv_iload_n hx hb dL_size_34 rfl (lv_at hl 2 rfl) ?_
        obtain ⟨e1, e2⟩ := so2 hf
        subst e1
        subst e2
        exact W.iret (v := v2) hx hb hr (fun t ht hWm => ⟨⟨rfl, by unfold QB; rw [ht]; exact ⟨hW, trivial⟩⟩, hS.F ht⟩) hS.2.2 dL_size_35 hlk
      · replace hf := ifF c24 hf
        refine lv_iload_n hx hb dL_size_13 rfl (lv_at hl 2 rfl) ?_
        refine lv_aload_n hx hb dL_size_14 rfl (lv_at hl 0 rfl) ?_
        refine lv_iload_n hx hb dL_size_15 rfl (lv_at hl 1 rfl) ?_
        refine lv_iload_n hx hb dL_size_16 rfl (lv_at hl 3 rfl) ?_
        replace hf := obE hf
        obtain ⟨z25, hz25, hf⟩ := hf
        obtain ⟨r27, S26⟩ := z25
        replace hf := ltE (ltE hf r27 rfl) S26 rfl
        refine x_callS (As := [.ref (gen g 98), .int v1, .int v3]) (rest := [.int v2]) (o := (some (.int r27))) (S1 := S26) hC hl.1 hW hS hGs hA (c_L_sort l g ad n K H.size F S21 v0 v1 v3 tv0 r27 S26 hz25) (va_cwS 3 hts gL_size_L_sort rfl rfl rfl (by decide +kernel) ⟨Nat.le_of_ble_eq_true rfl, Nat.le_of_ble_eq_true rfl⟩) rfl rfl (Nat.le_of_ble_eq_true rfl) dL_size_17 ⟨Nat.le_of_ble_eq_true rfl, Nat.le_of_ble_eq_true rfl⟩ (fun H locs hPz25 hW hS => ?_)
        refine W.eq (g2 := F0 m 20 ls [.int r27, .int v2]) rfl ?_
        replace hf := obE hf
        obtain ⟨z29, hz29, hf⟩ := hf
        obtain ⟨r31, S30⟩ := z29
        replace hf := ltE (ltE hf r31 rfl) S30 rfl
        refine x_callS (As := [.int r27]) (rest := [.int v2]) (o := (some (.ref (sad g ad r31)))) (S1 := S30) hC hl.1 hW hS hGs hA (c_L_part l g ad n K H.size F S26 r27 r31 S30 hz29) (va_cwS 1 hts gL_size_L_part rfl rfl rfl (by decide +kernel) ⟨Nat.le_of_ble_eq_true rfl, Nat.le_of_ble_eq_true rfl⟩) rfl rfl (Nat.le_of_ble_eq_true rfl) dL_size_20 ⟨Nat.le_of_ble_eq_true rfl, Nat.le_of_ble_eq_true rfl⟩ (fun H locs hPz29 hW hS => ?_)
        refine W.eq (g2 := F0 m 23 ls [.ref ((sad g ad r31)), .int v2]) rfl ?_
        replace hf := obE hf
        obtain ⟨z33, hz33, hf⟩ := hf
        obtain ⟨r35, S34⟩ := z33
        replace hf := ltE (ltE hf r35 rfl) S34 rfl
        refine x_callVs (As := []) (rest := [.int v2]) (o := (some (.int r35))) (S1 := S34) hC hl.1 hW hS hGs hA hPz29 rfl (c_J0_length_8abf5 l g ad n K H.size F S30 r31 hPz29 r35 S34 hz33) (cwV 0 hts gL_size_J0_length_8abf5 rfl rfl rfl (by decide +kernel) ⟨Nat.le_of_ble_eq_true rfl, Nat.le_of_ble_eq_true rfl⟩) rfl rfl (Nat.le_of_ble_eq_true rfl) dL_size_23 ⟨Nat.le_of_ble_eq_true rfl, Nat.le_of_ble_eq_true rfl⟩ (fun H locs hPz33 hW hS => ?_)
        refine W.eq (g2 := F0 m 26 ls [.int r35, .int v2]) rfl ?_
        refine lv_iadd hx hb dL_size_26 ?_
        refine lv_topi (fun x37 ex37 => ?_)
        replace hf := ltE hf x37 ex37
        refine lv_istore_n (lv' := [(2, .int x37), (0, .ref (gen g 98)), (1, .int v1), (3, .int v3)]) hx hb dL_size_27 rfl hl (by decide) rfl (fun ls hl => ?_)
        obtain ⟨x38, ex38⟩ : ∃ z : Int32, z = v3 + 1 := ⟨_, rfl⟩
        replace hf := ltE hf x38 ex38
        refine lv_iinc (v := x38) (lv' := [(3, .int x38), (2, .int x37), (0, .ref (gen g 98)), (1, .int v1)]) hx hb dL_size_28 hl (k := 3) rfl (by rw [ex38]; rfl) (by decide) rfl (fun ls hl => ?_)
        refine lv_goto (tgt := 4) hx hb dL_size_31 (by decide) ?_
        exact ih4 S34 v0 v1 x37 x38 tv0 _ _ _ hf hW hS (lv_sub hl [2, 3, 1, 0] rfl)
  unfold f_L_size at hf
  refine lv_iconst (v := 0) hx hb dL_size_0 (by decide) ?_
  refine lv_istore_n (lv' := [(2, .int 0), (0, .ref (gen g 98)), (1, .int p1)]) hx hb dL_size_1 rfl hl (by decide) rfl (fun ls hl => ?_)
  refine lv_iconst (v := 0) hx hb dL_size_2 (by decide) ?_
  refine lv_istore_n (lv' := [(3, .int 0), (2, .int 0), (0, .ref (gen g 98)), (1, .int p1)]) hx hb dL_size_3 rfl hl (by decide) rfl (fun ls hl => ?_)
  exact L4 F S0 p0 p1 0 0 tp0 _ _ _ hf hW hS (lv_sub hl [2, 3, 1, 0] rfl)
set_option maxHeartbeats 4000000 in
set_option maxRecDepth 100000 in
theorem c_L_recipients (l : Launch) (g : GP) (ad : Nat → Nat) (n : Nat) (K : Nat → Nat) (sz F : Nat) (S0 : St) (p0 : XS) (p1 : Int32) (tp0 : p0 = gX g) (r9 : Int32) (S9 : St) (hf : f_L_recipients F S0 p0 p1 = some (r9, S9)) : Met l yL_recipients wsL_recipients { frames := 2, cells := 0, slots := 0, locals := 42 } (va_Pc [.ref (gen g 98), .int p1] (PB g ad n K S0 sz)) (QR (some (.int r9)) (QB g ad n K S9 (dA ad n sz) (True)) (dA ad n sz)) 0 0 (dA ad n sz) := by
  refine Met.ofW (cc := cL_recipients) (maxL := 2) (ret := (some .int)) (by decide) rfl ?_
  intro p e s m args below meth c s₁ B hml hv
  obtain ⟨rfl, hsz, hW, hK, hGs⟩ := x_start hv
  subst hsz
  have hx := B.exec
  have hb := B.bytes
  have hr := B.returns
  have hts := atoms_spec (ws := wsL_recipients) B.pre
  have hown : s.vm.findClass RL = some m.cls := findClass_of_methodNamed B.named
  have hlk := B.notSynchronized
  have hC : Cx g p s m _ c cL_recipients RL wsL_recipients 2 := ⟨hx, hb, hml, hown, hts, hK⟩
  have hA : ∀ q : Nat, s.heap.size ≤ q → dA ad n s.heap.size q := fun q h => Or.inr h
  have hS : va_S (dA ad n s.heap.size) s.heap s.heap [] := va_S.rf
  have hl := lv_entry ([.ref (gen g 98), .int p1]) (n := 2) (Nat.le_of_ble_eq_true rfl)
  rw [lg_entry_eq]
  generalize (lg_sl ([.ref (gen g 98), .int p1]) ++ List.replicate (2 - (lg_sl ([.ref (gen g 98), .int p1])).length) Slot.unset).toArray = ls at hl ⊢
  have hl : lv_has ls 2 [(0, .ref (gen g 98)), (1, .int p1)] := hl
  have hGE := hGs.2.2.2.1
  have hGM := hGs.2.2.2.2
  unfold f_L_recipients at hf
  refine lv_iconst (v := 1) hx hb dL_recipients_0 (by decide) ?_
  refine lv_aload_n hx hb dL_recipients_1 rfl (lv_at hl 0 rfl) ?_
  refine lv_bipush (v := 65) hx hb dL_recipients_2 (by decide) ?_
  refine lv_bipush (v := 8) hx hb dL_recipients_4 (by decide) ?_
  refine lv_iload_n hx hb dL_recipients_6 rfl (lv_at hl 1 rfl) ?_
  refine lv_imul hx hb dL_recipients_7 ?_
  refine lv_iadd hx hb dL_recipients_8 ?_
  refine lv_iconst (v := 1) hx hb dL_recipients_9 (by decide) ?_
  refine lv_aload_n hx hb dL_recipients_10 rfl (lv_at hl 0 rfl) ?_
  replace hf := obE hf
  obtain ⟨z1, hz1, hf⟩ := hf
  obtain ⟨r3, S2⟩ := z1
  replace hf := ltE (ltE hf r3 rfl) S2 rfl
  refine x_callS (As := [.ref (gen g 98)]) (rest := [.int 1, .int (65 + (8 * p1)), .ref (gen g 98), .int 1]) (o := (some (.int r3))) (S1 := S2) hC hl.1 hW hS hGs hA (c_L_users l g ad n K s.heap.size F S0 p0 tp0 r3 S2 hz1) (va_cwS 1 hts gL_recipients_L_users rfl rfl rfl (by decide +kernel) ⟨Nat.le_of_ble_eq_true rfl, Nat.le_of_ble_eq_true rfl⟩) rfl rfl (Nat.le_of_ble_eq_true rfl) dL_recipients_11 ⟨Nat.le_of_ble_eq_true rfl, Nat.le_of_ble_eq_true rfl⟩ (fun H locs hPz1 hW hS => ?_)
  refine W.eq (g2 := F0 m 14 ls [.int r3, .int 1, .int (65 + (8 * p1)), .ref (gen g 98), .int 1]) rfl ?_
  refine lv_ishl hx hb dL_recipients_14 ?_
  refine lv_iconst (v := 1) hx hb dL_recipients_15 (by decide) ?_
  refine lv_isub hx hb dL_recipients_16 ?_
  replace hf := obE hf
  obtain ⟨z5, hz5, hf⟩ := hf
  obtain ⟨r7, S6⟩ := z5
  replace hf := ltE (ltE hf r7 rfl) S6 rfl
  refine x_callS (As := [.ref (gen g 98), .int (65 + (8 * p1)), .int ((1 <<< (r3 &&& 31)) - 1)]) (rest := [.int 1]) (o := (some (.int r7))) (S1 := S6) hC hl.1 hW hS hGs hA (c_L_draw l g ad n K H.size F S2 p0 (65 + (8 * p1)) ((1 <<< (r3 &&& 31)) - 1) tp0 r7 S6 hz5) (va_cwS 3 hts gL_recipients_L_draw rfl rfl rfl (by decide +kernel) ⟨Nat.le_of_ble_eq_true rfl, Nat.le_of_ble_eq_true rfl⟩) rfl rfl (Nat.le_of_ble_eq_true rfl) dL_recipients_17 ⟨Nat.le_of_ble_eq_true rfl, Nat.le_of_ble_eq_true rfl⟩ (fun H locs hPz5 hW hS => ?_)
  refine W.eq (g2 := F0 m 20 ls [.int r7, .int 1]) rfl ?_
  refine lv_iadd hx hb dL_recipients_20 ?_
  obtain ⟨e1, e2⟩ := so2 hf
  subst e1
  subst e2
  exact W.iret (v := 1 + r7) hx hb hr (fun t ht hWm => ⟨⟨rfl, by unfold QB; rw [ht]; exact ⟨hW, trivial⟩⟩, hS.F ht⟩) hS.2.2 dL_recipients_21 hlk
set_option maxHeartbeats 4000000 in
set_option maxRecDepth 100000 in
theorem c_L_special (l : Launch) (g : GP) (ad : Nat → Nat) (n : Nat) (K : Nat → Nat) (sz F : Nat) (S0 : St) (p0 : XS) (p1 : Int32) (tp0 : p0 = gX g) (r9 : Int32) (S9 : St) (hf : f_L_special F S0 p0 p1 = some (r9, S9)) : Met l yL_special wsL_special { frames := 2, cells := 0, slots := 0, locals := 42 } (va_Pc [.ref (gen g 98), .int p1] (PB g ad n K S0 sz)) (QR (some (.int r9)) (QB g ad n K S9 (dA ad n sz) (True)) (dA ad n sz)) 0 0 (dA ad n sz) := by
  refine Met.ofW (cc := cL_special) (maxL := 2) (ret := (some .int)) (by decide) rfl ?_
  intro p e s m args below meth c s₁ B hml hv
  obtain ⟨rfl, hsz, hW, hK, hGs⟩ := x_start hv
  subst hsz
  have hx := B.exec
  have hb := B.bytes
  have hr := B.returns
  have hts := atoms_spec (ws := wsL_special) B.pre
  have hown : s.vm.findClass RL = some m.cls := findClass_of_methodNamed B.named
  have hlk := B.notSynchronized
  have hC : Cx g p s m _ c cL_special RL wsL_special 2 := ⟨hx, hb, hml, hown, hts, hK⟩
  have hA : ∀ q : Nat, s.heap.size ≤ q → dA ad n s.heap.size q := fun q h => Or.inr h
  have hS : va_S (dA ad n s.heap.size) s.heap s.heap [] := va_S.rf
  have hl := lv_entry ([.ref (gen g 98), .int p1]) (n := 2) (Nat.le_of_ble_eq_true rfl)
  rw [lg_entry_eq]
  generalize (lg_sl ([.ref (gen g 98), .int p1]) ++ List.replicate (2 - (lg_sl ([.ref (gen g 98), .int p1])).length) Slot.unset).toArray = ls at hl ⊢
  have hl : lv_has ls 2 [(0, .ref (gen g 98)), (1, .int p1)] := hl
  have hGE := hGs.2.2.2.1
  have hGM := hGs.2.2.2.2
  unfold f_L_special at hf
  refine lv_aload_n hx hb dL_special_0 rfl (lv_at hl 0 rfl) ?_
  refine lv_bipush (v := 66) hx hb dL_special_1 (by decide) ?_
  refine lv_bipush (v := 8) hx hb dL_special_3 (by decide) ?_
  refine lv_iload_n hx hb dL_special_5 rfl (lv_at hl 1 rfl) ?_
  refine lv_imul hx hb dL_special_6 ?_
  refine lv_iadd hx hb dL_special_7 ?_
  refine lv_iconst (v := 3) hx hb dL_special_8 (by decide) ?_
  replace hf := obE hf
  obtain ⟨z1, hz1, hf⟩ := hf
  obtain ⟨r3, S2⟩ := z1
  replace hf := ltE (ltE hf r3 rfl) S2 rfl
  refine x_callS (As := [.ref (gen g 98), .int (66 + (8 * p1)), .int 3]) (rest := []) (o := (some (.int r3))) (S1 := S2) hC hl.1 hW hS hGs hA (c_L_draw l g ad n K s.heap.size F S0 p0 (66 + (8 * p1)) ((3 : Int32)) tp0 r3 S2 hz1) (va_cwS 3 hts gL_special_L_draw rfl rfl rfl (by decide +kernel) ⟨Nat.le_of_ble_eq_true rfl, Nat.le_of_ble_eq_true rfl⟩) rfl rfl (Nat.le_of_ble_eq_true rfl) dL_special_9 ⟨Nat.le_of_ble_eq_true rfl, Nat.le_of_ble_eq_true rfl⟩ (fun H locs hPz1 hW hS => ?_)
  refine W.eq (g2 := F0 m 12 ls [.int r3]) rfl ?_
  refine lv_if_ne (tgt := 33) hx hb dL_special_12 (by decide) (fun c5 => ?_) (fun c5 => ?_)
  · replace hf := ifT c5 hf
    refine lv_iconst (v := -1) hx hb dL_special_33 (by decide) ?_
    obtain ⟨e1, e2⟩ := so2 hf
    subst e1
    subst e2
    exact W.iret (v := (-1)) hx hb hr (fun t ht hWm => ⟨⟨rfl, by unfold QB; rw [ht]; exact ⟨hW, trivial⟩⟩, hS.F ht⟩) hS.2.2 dL_special_34 hlk
  · replace hf := ifF (fun q => q c5) hf
    refine lv_aload_n hx hb dL_special_15 rfl (lv_at hl 0 rfl) ?_
    refine lv_bipush (v := 67) hx hb dL_special_16 (by decide) ?_
    refine lv_bipush (v := 8) hx hb dL_special_18 (by decide) ?_
    refine lv_iload_n hx hb dL_special_20 rfl (lv_at hl 1 rfl) ?_
    refine lv_imul hx hb dL_special_21 ?_
    refine lv_iadd hx hb dL_special_22 ?_
    refine lv_aload_n hx hb dL_special_23 rfl (lv_at hl 0 rfl) ?_
    replace hf := obE hf
    obtain ⟨z6, hz6, hf⟩ := hf
    obtain ⟨r8, S7⟩ := z6
    replace hf := ltE (ltE hf r8 rfl) S7 rfl
    refine x_callS (As := [.ref (gen g 98)]) (rest := [.int (67 + (8 * p1)), .ref (gen g 98)]) (o := (some (.int r8))) (S1 := S7) hC hl.1 hW hS hGs hA (c_L_classes l g ad n K H.size F S2 p0 tp0 r8 S7 hz6) (va_cwS 1 hts gL_special_L_classes rfl rfl rfl (by decide +kernel) ⟨Nat.le_of_ble_eq_true rfl, Nat.le_of_ble_eq_true rfl⟩) rfl rfl (Nat.le_of_ble_eq_true rfl) dL_special_24 ⟨Nat.le_of_ble_eq_true rfl, Nat.le_of_ble_eq_true rfl⟩ (fun H locs hPz6 hW hS => ?_)
    refine W.eq (g2 := F0 m 27 ls [.int r8, .int (67 + (8 * p1)), .ref (gen g 98)]) rfl ?_
    replace hf := obE hf
    obtain ⟨z10, hz10, hf⟩ := hf
    obtain ⟨r12, S11⟩ := z10
    replace hf := ltE (ltE hf r12 rfl) S11 rfl
    refine x_callS (As := [.ref (gen g 98), .int (67 + (8 * p1)), .int r8]) (rest := []) (o := (some (.int r12))) (S1 := S11) hC hl.1 hW hS hGs hA (c_L_draw l g ad n K H.size F S7 p0 (67 + (8 * p1)) r8 tp0 r12 S11 hz10) (va_cwS 3 hts gL_special_L_draw rfl rfl rfl (by decide +kernel) ⟨Nat.le_of_ble_eq_true rfl, Nat.le_of_ble_eq_true rfl⟩) rfl rfl (Nat.le_of_ble_eq_true rfl) dL_special_27 ⟨Nat.le_of_ble_eq_true rfl, Nat.le_of_ble_eq_true rfl⟩ (fun H locs hPz10 hW hS => ?_)
    refine W.eq (g2 := F0 m 30 ls [.int r12]) rfl ?_
    refine lv_goto (tgt := 34) hx hb dL_special_30 (by decide) ?_
    obtain ⟨e1, e2⟩ := so2 hf
    subst e1
    subst e2
    exact W.iret (v := r12) hx hb hr (fun t ht hWm => ⟨⟨rfl, by unfold QB; rw [ht]; exact ⟨hW, trivial⟩⟩, hS.F ht⟩) hS.2.2 dL_special_34 hlk
set_option maxHeartbeats 4000000 in
set_option maxRecDepth 100000 in
theorem c_L_deliver (l : Launch) (g : GP) (ad : Nat → Nat) (n : Nat) (K : Nat → Nat) (sz F : Nat) (S0 : St) (p0 : Nat) (p1 : XS) (p2 : Int32) (tp0 : p0 < n ∧ K p0 = 9) (tp1 : p1 = gX g) (r9 : Int32) (S9 : St) (n9 : Nat) (hf : f_L_deliver F S0 n p0 p1 p2 = some (r9, S9, n9)) : Met l yL_deliver wsL_deliver { frames := 9, cells := 25, slots := 20537, locals := 200 } (va_Pc [.ref (ad p0), .ref (gen g 98), .int p2] (PB g ad n K S0 sz)) (QA ad K n (fun _ => (some (.int r9))) g n9 S9 (dA ad n sz) (fun _ => True)) 25 20537 (dA ad n sz) := by
  refine Met.ofW (cc := cL_deliver) (maxL := 5) (ret := (some .int)) (by decide) rfl ?_
  intro p e s m args below meth c s₁ B hml hv
  obtain ⟨rfl, hsz, hW, hK, hGs⟩ := x_start hv
  subst hsz
  have hx := B.exec
  have hb := B.bytes
  have hr := B.returns
  have hts := atoms_spec (ws := wsL_deliver) B.pre
  have hown : s.vm.findClass RL = some m.cls := findClass_of_methodNamed B.named
  have hlk := B.notSynchronized
  have hC : Cx g p s m _ c cL_deliver RL wsL_deliver 5 := ⟨hx, hb, hml, hown, hts, hK⟩
  have hA : ∀ q : Nat, s.heap.size ≤ q → dA ad n s.heap.size q := fun q h => Or.inr h
  have hS : va_S (dA ad n s.heap.size) s.heap s.heap [] := va_S.rf
  have hl := lv_entry ([.ref (ad p0), .ref (gen g 98), .int p2]) (n := 5) (Nat.le_of_ble_eq_true rfl)
  rw [lg_entry_eq]
  generalize (lg_sl ([.ref (ad p0), .ref (gen g 98), .int p2]) ++ List.replicate (5 - (lg_sl ([.ref (ad p0), .ref (gen g 98), .int p2])).length) Slot.unset).toArray = ls at hl ⊢
  have hl : lv_has ls 5 [(0, .ref (ad p0)), (1, .ref (gen g 98)), (2, .int p2)] := hl
  have hinJ4 : ∀ w ∈ wsJ40, w ∈ wsL_deliver := fun w h => List.mem_cons_of_mem _ (inlJ4 w h)
  have w_0 := hts (.classLink RL 51 RJ4) (by decide +kernel)
  have w_1 := hts (.instantiable RJ4 4) (by decide +kernel)
  have w_2 := hts (.initialized RJ4) (by decide +kernel)
  have w_3 := hts (.methodLink RL 55 yJ4_init_a7421) (by decide +kernel)
  have w_4 := hts (.instanceMethod yJ4_init_a7421) (by decide +kernel)
  have hGE := hGs.2.2.2.1
  have hGM := hGs.2.2.2.2
  have L20 : ∀ (fu20 : Nat) (adL KL : Nat → Nat) (nL : Nat) (hagL : Ag ad K n adL KL nL) (cs ss : Nat) (hcs : cs + (fu20 * 2 + 12) ≤ 25) (hss : ss + (fu20 * 2048 + 9205) ≤ 20537) (S0 : St) (v0 : Nat) (v1 : XS) (v2 : Int32) (v3 : Nat) (v4 : Int32) (tv0 : v0 < nL ∧ KL v0 = 9) (tv1 : v1 = gX g) (tv3 : v3 < nL ∧ KL v3 = 10) (H : Heap) (locs : List Loc) (ls : Array Slot), f_L_deliver_L20 F fu20 S0 nL v0 v1 v2 v3 v4 = some (r9, S9, n9) → Wb g adL nL KL S0 (dA ad n s.heap.size) H → va_S (dA ad n s.heap.size) s.heap H locs → lv_has ls 5 [(0, .ref (adL v0)), (1, .ref (gen g 98)), (2, .int v2), (3, .ref (adL v3)), (4, .int v4)] → W p l e (headSpec wsL_deliver { frames := 9, cells := 25, slots := 20537, locals := 200 }).room s m (List.toArray [.ref (ad p0), .ref (gen g 98), .int p2]) below meth c H locs cs ss (MQ below (QA ad K n (fun _ => (some (.int r9))) g n9 S9 (dA ad n s.heap.size) (fun _ => True)) (List.toArray [.ref (ad p0), .ref (gen g 98), .int p2]) s 25 20537 (dA ad n s.heap.size)) (F0 m 20 ls []) := by
    intro fu20
    induction fu20 with
    | zero =>
      intro adL KL nL hagL cs ss hcs hss S0 v0 v1 v2 v3 v4 tv0 tv1 tv3 H locs ls hf
      cases hf
    | succ fu20 ih20 =>
      intro adL KL nL hagL cs ss hcs hss S0 v0 v1 v2 v3 v4 tv0 tv1 tv3 H locs ls hf hW hS hl
      unfold f_L_deliver_L20 at hf
      refine lv_iload hx hb dL_deliver_20 (lv_at hl 4 rfl) ?_
      refine lv_aload_n hx hb dL_deliver_22 rfl (lv_at hl 1 rfl) ?_
      refine lv_iload_n hx hb dL_deliver_23 rfl (lv_at hl 2 rfl) ?_
      replace hf := obE hf
      obtain ⟨z77, hz77, hf⟩ := hf
      obtain ⟨r79, S78⟩ := z77
      replace hf := ltE (ltE hf r79 rfl) S78 rfl
      refine x_callS (As := [.ref (gen g 98), .int v2]) (rest := [.int v4]) (o := (some (.int r79))) (S1 := S78) hC hl.1 hW hS hGs hA (c_L_parts l g adL nL KL H.size F S0 v1 v2 tv1 r79 S78 hz77) (va_cwS 2 hts gL_deliver_L_parts rfl rfl rfl (by decide +kernel) ⟨Nat.le_of_ble_eq_true rfl, Nat.le_of_ble_eq_true rfl⟩) rfl rfl (Nat.le_of_ble_eq_true rfl) dL_deliver_24 ⟨show cs ≤ 25 by omega, show ss ≤ 20537 by omega⟩ (fun H locs hPz77 hW hS => ?_)
      refine W.eq (g2 := F0 m 27 ls [.int r79, .int v4]) rfl ?_
      refine lv_icmp_ge (tgt := 56) hx hb dL_deliver_27 (by decide) (fun c81 => ?_) (fun c81 => ?_)
      · replace hf := ifT c81 hf
        refine lv_aload_n hx hb dL_deliver_56 rfl (lv_at hl 0 rfl) ?_
        refine lv_aload_n hx hb dL_deliver_57 rfl (lv_at hl 3 rfl) ?_
        replace hf := obE hf
        obtain ⟨z82, hz82, hf⟩ := hf
        obtain ⟨r84, S83, n85⟩ := z82
        replace hf := ltE (ltE (ltE hf r84 rfl) S83 rfl) n85 rfl
        refine x_acallV (As := []) (rest := [.ref (adL v0)]) (S1 := S83) (n1 := n85) (o := (fun a => some (.ref (sad g a r84)))) (P := (fun K9 => tS 18 n85 K9 r84)) hC hl.1 hW hS hGs hA tv3 rfl (show vwCl[10]? = some (RJ4, TJ4, 4) ∧ ob 10 from ⟨rfl, by decide⟩) (c_J4_toString_0e30d l g adL nL KL H.size F S78 v3 tv3 r84 S83 n85 hz82) (cwV 0 hts gL_deliver_J4_toString_0e30d rfl rfl rfl (by decide +kernel) ⟨Nat.le_of_ble_eq_true rfl, Nat.le_of_ble_eq_true rfl⟩) rfl rfl (Nat.le_of_ble_eq_true rfl) dL_deliver_58 ⟨(show cs + 2 ≤ 25 by omega), (show ss + 1028 ≤ 20537 by omega)⟩ (fun ad86 K87 H locs hag88 hPz82 hW hS => ?_)
        have g89 := hag88.t tv0
        have g90 := hag88.e tv0 rfl
        have g91 := hag88.t tv3
        have g92 := hag88.e tv3 rfl
        have ag93 := (hagL).tr hag88
        refine W.widen (k := (cs + 2)) (n := (ss + 1028)) (by omega) (by omega) ?_
        refine W.eq (g2 := F0 m 61 ls [.ref ((sad g ad86 r84)), .ref (adL v0)]) rfl ?_
        replace hf := obE hf
        obtain ⟨S95, hz94, hf⟩ := hf
        refine x_callS (As := [.ref (ad86 v0), .ref ((sad g ad86 r84))]) (rest := []) (o := none) (S1 := S95) hC hl.1 hW hS hGs hA (c_L_feed l g ad86 n85 K87 H.size F S83 v0 r84 g89 hPz82 S95 hz94) (va_cwS 2 hts gL_deliver_L_feed rfl rfl rfl (by decide +kernel) ⟨Nat.le_of_ble_eq_true rfl, Nat.le_of_ble_eq_true rfl⟩) rfl (by rw [g90] <;> rfl) (Nat.le_of_ble_eq_true rfl) dL_deliver_61 ⟨show (cs + 2) ≤ 25 by omega, show (ss + 1028) ≤ 20537 by omega⟩ (fun H locs hPz94 hW hS => ?_)
        refine W.eq (g2 := F0 m 64 ls []) rfl ?_
        refine lv_aload_n hx hb dL_deliver_64 rfl (lv_at hl 0 rfl) ?_
        refine lv_iconst (v := 0) hx hb dL_deliver_65 (by decide) ?_
        refine lv_aload_n hx hb dL_deliver_66 rfl (lv_at hl 1 rfl) ?_
        refine lv_iload_n hx hb dL_deliver_67 rfl (lv_at hl 2 rfl) ?_
        replace hf := obE hf
        obtain ⟨z98, hz98, hf⟩ := hf
        obtain ⟨r100, S99⟩ := z98
        replace hf := ltE (ltE hf r100 rfl) S99 rfl
        refine x_callS (As := [.ref (gen g 98), .int v2]) (rest := [.int 0, .ref (adL v0)]) (o := (some (.int r100))) (S1 := S99) hC hl.1 hW hS hGs hA (c_L_recipients l g ad86 n85 K87 H.size F S95 v1 v2 tv1 r100 S99 hz98) (va_cwS 2 hts gL_deliver_L_recipients rfl rfl rfl (by decide +kernel) ⟨Nat.le_of_ble_eq_true rfl, Nat.le_of_ble_eq_true rfl⟩) rfl rfl (Nat.le_of_ble_eq_true rfl) dL_deliver_68 ⟨show (cs + 2) ≤ 25 by omega, show (ss + 1028) ≤ 20537 by omega⟩ (fun H locs hPz98 hW hS => ?_)
        refine W.eq (g2 := F0 m 71 ls [.int r100, .int 0, .ref (adL v0)]) rfl ?_
        refine lv_aload_n hx hb dL_deliver_71 rfl (lv_at hl 1 rfl) ?_
        refine lv_iload_n hx hb dL_deliver_72 rfl (lv_at hl 2 rfl) ?_
        replace hf := obE hf
        obtain ⟨z102, hz102, hf⟩ := hf
        obtain ⟨r104, S103⟩ := z102
        replace hf := ltE (ltE hf r104 rfl) S103 rfl
        refine x_callS (As := [.ref (gen g 98), .int v2]) (rest := [.int r100, .int 0, .ref (adL v0)]) (o := (some (.int r104))) (S1 := S103) hC hl.1 hW hS hGs hA (c_L_special l g ad86 n85 K87 H.size F S99 v1 v2 tv1 r104 S103 hz102) (va_cwS 2 hts gL_deliver_L_special rfl rfl rfl (by decide +kernel) ⟨Nat.le_of_ble_eq_true rfl, Nat.le_of_ble_eq_true rfl⟩) rfl rfl (Nat.le_of_ble_eq_true rfl) dL_deliver_73 ⟨show (cs + 2) ≤ 25 by omega, show (ss + 1028) ≤ 20537 by omega⟩ (fun H locs hPz102 hW hS => ?_)
        refine W.eq (g2 := F0 m 76 ls [.int r104, .int r100, .int 0, .ref (adL v0)]) rfl ?_
        replace hf := obE hf
        obtain ⟨z106, hz106, hf⟩ := hf
        obtain ⟨oz106, S107, n109⟩ := z106
        replace hf := ltE (ltE hf S107 rfl) n109 rfl
        cases oz106 with
        | inl x =>
          replace hf := smL rfl hf
          cases hf
        | inr r108 =>
          replace hf := smR rfl hf
          refine x_acallV (As := [.int 0, .int r100, .int r104]) (rest := []) (S1 := S107) (n1 := n109) (o := (fun _ => (some (.int r108)))) (P := (fun _ => True)) hC hl.1 hW hS hGs hA g89 rfl (show vwCl[9]? = some (RX10, TX10, 11) ∧ ob 9 from ⟨rfl, by decide⟩) (c_X10_deliver l g ad86 n85 K87 H.size F S103 v0 ((0 : Int32)) r100 r104 g89 r108 S107 n109 hz106) (cwV 3 hts gL_deliver_X10_deliver rfl rfl rfl (by decide +kernel) ⟨Nat.le_of_ble_eq_true rfl, Nat.le_of_ble_eq_true rfl⟩) rfl (by rw [g90] <;> rfl) (Nat.le_of_ble_eq_true rfl) dL_deliver_76 ⟨(show (cs + 2) + 10 ≤ 25 by omega), (show (ss + 1028) + 8177 ≤ 20537 by omega)⟩ (fun ad110 K111 H locs hag112 hPz106 hW hS => ?_)
          have g113 := hag112.t g89
          have g114 := hag112.e g89 g90
          have g115 := hag112.t g91
          have g116 := hag112.e g91 g92
          have ag117 := (ag93).tr hag112
          refine W.widen (k := (cs + 12)) (n := (ss + 9205)) (by omega) (by omega) ?_
          refine W.eq (g2 := F0 m 79 ls [.int r108]) rfl ?_
          obtain ⟨e1, e2, e3⟩ := so3 hf
          subst e1
          subst e2
          subst e3
          refine W.widen (k := 25) (n := 20537) (by omega) (by omega) ?_
          exact W.iret (v := r108) hx hb hr (fun t ht hWm => ⟨⟨ad110, K111, rfl, ag117, trivial, by rw [ht]; exact hW⟩, hS.F ht⟩) hS.2.2 dL_deliver_79 hlk
      · replace hf := ifF c81 hf
        refine lv_aload_n hx hb dL_deliver_30 rfl (lv_at hl 3 rfl) ?_
        refine lv_bipush (v := 124) hx hb dL_deliver_31 (by decide) ?_
        replace hf := obE hf
        obtain ⟨z118, hz118, hf⟩ := hf
        obtain ⟨r120, S119, n121⟩ := z118
        replace hf := ltE (ltE (ltE hf r120 rfl) S119 rfl) n121 rfl
        refine x_acallV (As := [.int 124]) (rest := []) (S1 := S119) (n1 := n121) (o := (fun a => some (va_re a r120))) (P := (fun K9 => ∀ j, r120 = some j → j < n121 ∧ K9 j = 10)) hC hl.1 hW hS hGs hA tv3 rfl (show vwCl[10]? = some (RJ4, TJ4, 4) ∧ ob 10 from ⟨rfl, by decide⟩) (c_J4_append_cf468 l g adL nL KL H.size F S78 v3 ((124 : Int32)) tv3 r120 S119 n121 hz118) (cwV 1 hts gL_deliver_J4_append_cf468 rfl rfl rfl (by decide +kernel) ⟨Nat.le_of_ble_eq_true rfl, Nat.le_of_ble_eq_true rfl⟩) rfl rfl (Nat.le_of_ble_eq_true rfl) dL_deliver_33 ⟨(show cs + 1 ≤ 25 by omega), (show ss + 1024 ≤ 20537 by omega)⟩ (fun ad122 K123 H locs hag124 hPz118 hW hS => ?_)
        have g125 := hag124.t tv0
        have g126 := hag124.e tv0 rfl
        have g127 := hag124.t tv3
        have g128 := hag124.e tv3 rfl
        have ag129 := (hagL).tr hag124
        refine W.widen (k := (cs + 1)) (n := (ss + 1024)) (by omega) (by omega) ?_
        replace hf := obE hf
        obtain ⟨j130, qj130, hf⟩ := hf
        have tj130 := hPz118 j130 qj130
        refine W.eq (g2 := F0 m 36 ls [.ref (ad122 j130)]) (by rw [qj130]; rfl) ?_
        refine lv_aload_n hx hb dL_deliver_36 rfl (lv_at hl 1 rfl) ?_
        refine lv_iload_n hx hb dL_deliver_37 rfl (lv_at hl 2 rfl) ?_
        refine lv_iload hx hb dL_deliver_38 (lv_at hl 4 rfl) ?_
        replace hf := obE hf
        obtain ⟨z131, hz131, hf⟩ := hf
        obtain ⟨r133, S132⟩ := z131
        replace hf := ltE (ltE hf r133 rfl) S132 rfl
        refine x_callS (As := [.ref (gen g 98), .int v2, .int v4]) (rest := [.ref (ad122 j130)]) (o := (some (.int r133))) (S1 := S132) hC hl.1 hW hS hGs hA (c_L_sort l g ad122 n121 K123 H.size F S119 v1 v2 v4 tv1 r133 S132 hz131) (va_cwS 3 hts gL_deliver_L_sort rfl rfl rfl (by decide +kernel) ⟨Nat.le_of_ble_eq_true rfl, Nat.le_of_ble_eq_true rfl⟩) rfl rfl (Nat.le_of_ble_eq_true rfl) dL_deliver_40 ⟨show (cs + 1) ≤ 25 by omega, show (ss + 1024) ≤ 20537 by omega⟩ (fun H locs hPz131 hW hS => ?_)
        refine W.eq (g2 := F0 m 43 ls [.int r133, .ref (ad122 j130)]) rfl ?_
        replace hf := obE hf
        obtain ⟨z135, hz135, hf⟩ := hf
        obtain ⟨r137, S136⟩ := z135
        replace hf := ltE (ltE hf r137 rfl) S136 rfl
        refine x_callS (As := [.int r133]) (rest := [.ref (ad122 j130)]) (o := (some (.ref (sad g ad122 r137)))) (S1 := S136) hC hl.1 hW hS hGs hA (c_L_part l g ad122 n121 K123 H.size F S132 r133 r137 S136 hz135) (va_cwS 1 hts gL_deliver_L_part rfl rfl rfl (by decide +kernel) ⟨Nat.le_of_ble_eq_true rfl, Nat.le_of_ble_eq_true rfl⟩) rfl rfl (Nat.le_of_ble_eq_true rfl) dL_deliver_43 ⟨show (cs + 1) ≤ 25 by omega, show (ss + 1024) ≤ 20537 by omega⟩ (fun H locs hPz135 hW hS => ?_)
        refine W.eq (g2 := F0 m 46 ls [.ref ((sad g ad122 r137)), .ref (ad122 j130)]) rfl ?_
        replace hf := obE hf
        obtain ⟨z139, hz139, hf⟩ := hf
        obtain ⟨r141, S140, n142⟩ := z139
        replace hf := ltE (ltE (ltE hf r141 rfl) S140 rfl) n142 rfl
        refine x_acallV (As := [.ref ((sad g ad122 r137))]) (rest := []) (S1 := S140) (n1 := n142) (o := (fun a => some (va_re a r141))) (P := (fun K9 => ∀ j, r141 = some j → j < n142 ∧ K9 j = 10)) hC hl.1 hW hS hGs hA tj130 rfl (show vwCl[10]? = some (RJ4, TJ4, 4) ∧ ob 10 from ⟨rfl, by decide⟩) (c_J4_append_15ec4 l g ad122 n121 K123 H.size F S136 j130 r137 tj130 hPz135 r141 S140 n142 hz139) (cwV 1 hts gL_deliver_J4_append_15ec4 rfl rfl rfl (by decide +kernel) ⟨Nat.le_of_ble_eq_true rfl, Nat.le_of_ble_eq_true rfl⟩) rfl rfl (Nat.le_of_ble_eq_true rfl) dL_deliver_46 ⟨(show (cs + 1) + 1 ≤ 25 by omega), (show (ss + 1024) + 1024 ≤ 20537 by omega)⟩ (fun ad143 K144 H locs hag145 hPz139 hW hS => ?_)
        have g146 := hag145.t g125
        have g147 := hag145.e g125 g126
        have g148 := hag145.t g127
        have g149 := hag145.e g127 g128
        have ag150 := (ag129).tr hag145
        refine W.widen (k := (cs + 2)) (n := (ss + 2048)) (by omega) (by omega) ?_
        replace hf := obE hf
        obtain ⟨j151, qj151, hf⟩ := hf
        have tj151 := hPz139 j151 qj151
        refine W.eq (g2 := F0 m 49 ls [.ref (ad143 j151)]) (by rw [qj151]; rfl) ?_
        refine lv_pop hx hb dL_deliver_49 rfl ?_
        obtain ⟨x152, ex152⟩ : ∃ z : Int32, z = v4 + 1 := ⟨_, rfl⟩
        replace hf := ltE hf x152 ex152
        refine lv_iinc (v := x152) (lv' := [(4, .int x152), (0, .ref (adL v0)), (1, .ref (gen g 98)), (2, .int v2), (3, .ref (adL v3))]) hx hb dL_deliver_50 hl (k := 4) rfl (by rw [ex152]; rfl) (by decide) rfl (fun ls hl => ?_)
        refine lv_goto (tgt := 20) hx hb dL_deliver_53 (by decide) ?_
        exact ih20 ad143 K144 n142 ag150 (cs + 2) (ss + 2048) (by omega) (by omega) S140 v0 v1 v2 v3 x152 g146 tv1 g148 _ _ _ hf hW hS (lv_sub hl [1, 2, 3, 4, 0] (by rw [g147, g149] <;> rfl))
  unfold f_L_deliver at hf
  refine x_new (ci := 10) (C := RJ4) (T := TJ4) (N := 4) hC hinJ4 tyJ4_ok hW hS hA ⟨rfl, by decide, by decide⟩ (by decide +kernel) w_0 w_1 w_2 (show 0 + 1 ≤ 25 by omega) (show 0 + 4 ≤ 20537 by omega) dL_deliver_0 (fun q153 ad154 K155 S156 H eS156 hag158 eqq153 ekq153 hW hS => ?_)
  replace hf := ltE hf S156 eS156
  obtain ⟨n157, en157⟩ : ∃ z, z = n + 1 := ⟨_, rfl⟩
  rw [← en157] at hag158 hW
  replace hf := ltE hf n157 en157
  have tq153 : n < n157 ∧ K155 n = 10 := ⟨by omega, ekq153⟩
  have g159 := hag158.t tp0
  have g160 := hag158.e tp0 rfl
  have ag161 := (Ag.rf).tr hag158
  refine W.widen (k := 1) (n := 4) (by omega) (by omega) ?_
  refine lv_dup hx hb dL_deliver_3 rfl ?_
  refine lv_aload_n hx hb dL_deliver_4 rfl (lv_at hl 1 rfl) ?_
  refine lv_iload_n hx hb dL_deliver_5 rfl (lv_at hl 2 rfl) ?_
  refine lv_iconst (v := 0) hx hb dL_deliver_6 (by decide) ?_
  replace hf := obE hf
  obtain ⟨z162, hz162, hf⟩ := hf
  obtain ⟨r164, S163⟩ := z162
  replace hf := ltE (ltE hf r164 rfl) S163 rfl
  refine x_callS (As := [.ref (gen g 98), .int p2, .int 0]) (rest := [.ref (q153), .ref (q153)]) (o := (some (.int r164))) (S1 := S163) hC hl.1 hW hS hGs hA (c_L_sort l g ad154 n157 K155 H.size F S156 p1 p2 ((0 : Int32)) tp1 r164 S163 hz162) (va_cwS 3 hts gL_deliver_L_sort rfl rfl rfl (by decide +kernel) ⟨Nat.le_of_ble_eq_true rfl, Nat.le_of_ble_eq_true rfl⟩) rfl rfl (Nat.le_of_ble_eq_true rfl) dL_deliver_7 ⟨show 1 ≤ 25 by omega, show 4 ≤ 20537 by omega⟩ (fun H locs hPz162 hW hS => ?_)
  refine W.eq (g2 := F0 m 10 ls [.int r164, .ref (q153), .ref (q153)]) rfl ?_
  replace hf := obE hf
  obtain ⟨z166, hz166, hf⟩ := hf
  obtain ⟨r168, S167⟩ := z166
  replace hf := ltE (ltE hf r168 rfl) S167 rfl
  refine x_callS (As := [.int r164]) (rest := [.ref (q153), .ref (q153)]) (o := (some (.ref (sad g ad154 r168)))) (S1 := S167) hC hl.1 hW hS hGs hA (c_L_part l g ad154 n157 K155 H.size F S163 r164 r168 S167 hz166) (va_cwS 1 hts gL_deliver_L_part rfl rfl rfl (by decide +kernel) ⟨Nat.le_of_ble_eq_true rfl, Nat.le_of_ble_eq_true rfl⟩) rfl rfl (Nat.le_of_ble_eq_true rfl) dL_deliver_10 ⟨show 1 ≤ 25 by omega, show 4 ≤ 20537 by omega⟩ (fun H locs hPz166 hW hS => ?_)
  refine W.eq (g2 := F0 m 13 ls [.ref ((sad g ad154 r168)), .ref (q153), .ref (q153)]) rfl ?_
  replace hf := obE hf
  obtain ⟨z170, hz170, hf⟩ := hf
  obtain ⟨S171, n173⟩ := z170
  replace hf := ltE (ltE hf S171 rfl) n173 rfl
  refine x_acallI (As := [.ref ((sad g ad154 r168))]) (rest := [.ref (q153)]) (S1 := S171) (n1 := n173) (o := (fun _ => none)) (P := (fun _ => True)) hC hl.1 hW hS hGs hA (c_J4_init_a7421 l g ad154 n157 K155 H.size F S167 n r168 tq153 hPz166 S171 n173 hz170) (cwI 1 hts gL_deliver_J4_init_a7421 rfl rfl rfl w_2 w_3 w_4 rfl (by decide +kernel) ⟨Nat.le_of_ble_eq_true rfl, Nat.le_of_ble_eq_true rfl⟩) rfl (by rw [eqq153] <;> rfl) (Nat.le_of_ble_eq_true rfl) dL_deliver_13 ⟨(show 1 + 2 ≤ 25 by omega), (show 4 + 1088 ≤ 20537 by omega)⟩ (fun ad174 K175 H locs hag176 hPz170 hW hS => ?_)
  have g177 := hag176.t g159
  have g178 := hag176.e g159 g160
  have g179 := hag176.t tq153
  have g180 := hag176.e tq153 eqq153
  have ag181 := (ag161).tr hag176
  refine W.widen (k := 3) (n := 1092) (by omega) (by omega) ?_
  refine W.eq (g2 := F0 m 16 ls [.ref (q153)]) rfl ?_
  refine lv_astore_n (lv' := [(3, .ref (q153)), (0, .ref (ad p0)), (1, .ref (gen g 98)), (2, .int p2)]) hx hb dL_deliver_16 rfl hl (by decide) rfl (fun ls hl => ?_)
  refine lv_iconst (v := 1) hx hb dL_deliver_17 (by decide) ?_
  refine lv_istore (lv' := [(4, .int 1), (3, .ref (q153)), (0, .ref (ad p0)), (1, .ref (gen g 98)), (2, .int p2)]) hx hb dL_deliver_18 hl (by decide) rfl (fun ls hl => ?_)
  exact L20 5 ad174 K175 n173 ag181 3 1092 (by omega) (by omega) S171 p0 p1 p2 n 1 g177 tp1 g179 _ _ _ hf hW hS (lv_sub hl [2, 3, 4, 1, 0] (by rw [g178, g180] <;> rfl))
set_option maxHeartbeats 4000000 in
set_option maxRecDepth 100000 in
theorem c_L_wrong (l : Launch) (g : GP) (ad : Nat → Nat) (n : Nat) (K : Nat → Nat) (sz F : Nat) (S0 : St) (p0 : Nat) (p1 : Nat) (p2 : Int32) (p3 : Int32) (tp0 : p0 < n ∧ K p0 = 9) (tp1 : tS 18 n K p1) (r9 : Int32) (S9 : St) (n9 : Nat) (hf : f_L_wrong F S0 n p0 p1 p2 p3 = some (r9, S9, n9)) : Met l yL_wrong wsL_wrong { frames := 7, cells := 20, slots := 148, locals := 162 } (va_Pc [.ref (ad p0), .ref ((sad g ad p1)), .int p2, .int p3] (PB g ad n K S0 sz)) (QA ad K n (fun _ => (some (.int r9))) g n9 S9 (dA ad n sz) (fun _ => True)) 20 148 (dA ad n sz) := by
  refine Met.ofW (cc := cL_wrong) (maxL := 4) (ret := (some .boolean)) (by decide) rfl ?_
  intro p e s m args below meth c s₁ B hml hv
  obtain ⟨rfl, hsz, hW, hK, hGs⟩ := x_start hv
  subst hsz
  have hx := B.exec
  have hb := B.bytes
  have hr := B.returns
  have hts := atoms_spec (ws := wsL_wrong) B.pre
  have hown : s.vm.findClass RL = some m.cls := findClass_of_methodNamed B.named
  have hlk := B.notSynchronized
  have hC : Cx g p s m _ c cL_wrong RL wsL_wrong 4 := ⟨hx, hb, hml, hown, hts, hK⟩
  have hA : ∀ q : Nat, s.heap.size ≤ q → dA ad n s.heap.size q := fun q h => Or.inr h
  have hS : va_S (dA ad n s.heap.size) s.heap s.heap [] := va_S.rf
  have hl := lv_entry ([.ref (ad p0), .ref ((sad g ad p1)), .int p2, .int p3]) (n := 4) (Nat.le_of_ble_eq_true rfl)
  rw [lg_entry_eq]
  generalize (lg_sl ([.ref (ad p0), .ref ((sad g ad p1)), .int p2, .int p3]) ++ List.replicate (4 - (lg_sl ([.ref (ad p0), .ref ((sad g ad p1)), .int p2, .int p3])).length) Slot.unset).toArray = ls at hl ⊢
  have hl : lv_has ls 4 [(0, .ref (ad p0)), (1, .ref ((sad g ad p1))), (2, .int p2), (3, .int p3)] := hl
  have hGE := hGs.2.2.2.1
  have hGM := hGs.2.2.2.2
  unfold f_L_wrong at hf
  refine lv_aload_n hx hb dL_wrong_0 rfl (lv_at hl 0 rfl) ?_
  refine lv_aload_n hx hb dL_wrong_1 rfl (lv_at hl 1 rfl) ?_
  replace hf := obE hf
  obtain ⟨S2, hz1, hf⟩ := hf
  refine x_callS (As := [.ref (ad p0), .ref ((sad g ad p1))]) (rest := []) (o := none) (S1 := S2) hC hl.1 hW hS hGs hA (c_L_feed l g ad n K s.heap.size F S0 p0 p1 tp0 tp1 S2 hz1) (va_cwS 2 hts gL_wrong_L_feed rfl rfl rfl (by decide +kernel) ⟨Nat.le_of_ble_eq_true rfl, Nat.le_of_ble_eq_true rfl⟩) rfl rfl (Nat.le_of_ble_eq_true rfl) dL_wrong_2 ⟨Nat.le_of_ble_eq_true rfl, Nat.le_of_ble_eq_true rfl⟩ (fun H locs hPz1 hW hS => ?_)
  refine W.eq (g2 := F0 m 5 ls []) rfl ?_
  refine lv_aload_n hx hb dL_wrong_5 rfl (lv_at hl 0 rfl) ?_
  replace hf := obE hf
  obtain ⟨z5, hz5, hf⟩ := hf
  obtain ⟨r7, S6, n8⟩ := z5
  replace hf := ltE (ltE (ltE hf r7 rfl) S6 rfl) n8 rfl
  refine x_acallV (As := []) (rest := []) (S1 := S6) (n1 := n8) (o := (fun _ => some (.int r7))) (P := (fun _ => True)) hC hl.1 hW hS hGs hA tp0 rfl (show vwCl[9]? = some (RX10, TX10, 11) ∧ ob 9 from ⟨rfl, by decide⟩) (c_X10_load l g ad n K H.size F S2 p0 tp0 r7 S6 n8 hz5) (cwV 0 hts gL_wrong_X10_load rfl rfl rfl (by decide +kernel) ⟨Nat.le_of_ble_eq_true rfl, Nat.le_of_ble_eq_true rfl⟩) rfl rfl (Nat.le_of_ble_eq_true rfl) dL_wrong_6 ⟨(Nat.le_of_ble_eq_true rfl), (Nat.le_of_ble_eq_true rfl)⟩ (fun ad9 K10 H locs hag11 hPz5 hW hS => ?_)
  have g12 := hag11.t tp0
  have g13 := hag11.e tp0 rfl
  have g14 := hag11.s tp1
  have g15 := hag11.se (g := g) tp1 rfl
  have ag16 := (Ag.rf).tr hag11
  refine W.widen (k := 20) (n := 148) (by omega) (by omega) ?_
  refine W.eq (g2 := F0 m 9 ls [.int r7]) rfl ?_
  refine lv_bipush (v := -4) hx hb dL_wrong_9 (by decide) ?_
  refine lv_icmp_ne (tgt := 34) hx hb dL_wrong_11 (by decide) (fun c17 => ?_) (fun c17 => ?_)
  · replace hf := ifT c17 hf
    refine lv_iconst (v := 0) hx hb dL_wrong_34 (by decide) ?_
    obtain ⟨e1, e2, e3⟩ := so3 hf
    subst e1
    subst e2
    subst e3
    exact W.zret (v := 0) hx hb hr rfl (fun t ht hWm => ⟨⟨ad9, K10, rfl, ag16, trivial, by rw [ht]; exact hW⟩, hS.F ht⟩) hS.2.2 dL_wrong_35 hlk
  · replace hf := ifF (fun q => q c17) hf
    refine lv_aload_n hx hb dL_wrong_14 rfl (lv_at hl 0 rfl) ?_
    replace hf := obE hf
    obtain ⟨z18, hz18, hf⟩ := hf
    obtain ⟨r20, S19⟩ := z18
    replace hf := ltE (ltE hf r20 rfl) S19 rfl
    refine x_callV (As := []) (rest := []) (o := (some (.int r20))) (S1 := S19) hC hl.1 hW hS hGs hA g12 rfl (show vwCl[9]? = some (RX10, TX10, 11) ∧ ob 9 from ⟨rfl, by decide⟩) (c_X10_errorCode l g ad9 n8 K10 H.size F S6 p0 g12 r20 S19 hz18) (cwV 0 hts gL_wrong_X10_errorCode rfl rfl rfl (by decide +kernel) ⟨Nat.le_of_ble_eq_true rfl, Nat.le_of_ble_eq_true rfl⟩) rfl (by rw [g13] <;> rfl) (Nat.le_of_ble_eq_true rfl) dL_wrong_15 ⟨Nat.le_of_ble_eq_true rfl, Nat.le_of_ble_eq_true rfl⟩ (fun H locs hPz18 hW hS => ?_)
    refine W.eq (g2 := F0 m 18 ls [.int r20]) rfl ?_
    refine lv_iload_n hx hb dL_wrong_18 rfl (lv_at hl 2 rfl) ?_
    refine lv_icmp_ne (tgt := 34) hx hb dL_wrong_19 (by decide) (fun c22 => ?_) (fun c22 => ?_)
    · replace hf := ifT c22 hf
      refine lv_iconst (v := 0) hx hb dL_wrong_34 (by decide) ?_
      obtain ⟨e1, e2, e3⟩ := so3 hf
      subst e1
      subst e2
      subst e3
      exact W.zret (v := 0) hx hb hr rfl (fun t ht hWm => ⟨⟨ad9, K10, rfl, ag16, trivial, by rw [ht]; exact hW⟩, hS.F ht⟩) hS.2.2 dL_wrong_35 hlk
    · replace hf := ifF (fun q => q c22) hf
      refine lv_aload_n hx hb dL_wrong_22 rfl (lv_at hl 0 rfl) ?_
      replace hf := obE hf
      obtain ⟨z23, hz23, hf⟩ := hf
      obtain ⟨r25, S24⟩ := z23
      replace hf := ltE (ltE hf r25 rfl) S24 rfl
      refine x_callV (As := []) (rest := []) (o := (some (.int r25))) (S1 := S24) hC hl.1 hW hS hGs hA g12 rfl (show vwCl[9]? = some (RX10, TX10, 11) ∧ ob 9 from ⟨rfl, by decide⟩) (c_X10_errorPosition l g ad9 n8 K10 H.size F S19 p0 g12 r25 S24 hz23) (cwV 0 hts gL_wrong_X10_errorPosition rfl rfl rfl (by decide +kernel) ⟨Nat.le_of_ble_eq_true rfl, Nat.le_of_ble_eq_true rfl⟩) rfl (by rw [g13] <;> rfl) (Nat.le_of_ble_eq_true rfl) dL_wrong_23 ⟨Nat.le_of_ble_eq_true rfl, Nat.le_of_ble_eq_true rfl⟩ (fun H locs hPz23 hW hS => ?_)
      refine W.eq (g2 := F0 m 26 ls [.int r25]) rfl ?_
      refine lv_iload_n hx hb dL_wrong_26 rfl (lv_at hl 3 rfl) ?_
      refine lv_icmp_ne (tgt := 34) hx hb dL_wrong_27 (by decide) (fun c27 => ?_) (fun c27 => ?_)
      · replace hf := ifT c27 hf
        refine lv_iconst (v := 0) hx hb dL_wrong_34 (by decide) ?_
        obtain ⟨e1, e2, e3⟩ := so3 hf
        subst e1
        subst e2
        subst e3
        exact W.zret (v := 0) hx hb hr rfl (fun t ht hWm => ⟨⟨ad9, K10, rfl, ag16, trivial, by rw [ht]; exact hW⟩, hS.F ht⟩) hS.2.2 dL_wrong_35 hlk
      · replace hf := ifF (fun q => q c27) hf
        refine lv_iconst (v := 1) hx hb dL_wrong_30 (by decide) ?_
        refine lv_goto (tgt := 35) hx hb dL_wrong_31 (by decide) ?_
        obtain ⟨e1, e2, e3⟩ := so3 hf
        subst e1
        subst e2
        subst e3
        exact W.zret (v := 1) hx hb hr rfl (fun t ht hWm => ⟨⟨ad9, K10, rfl, ag16, trivial, by rw [ht]; exact hW⟩, hS.F ht⟩) hS.2.2 dL_wrong_35 hlk
set_option maxHeartbeats 4000000 in
set_option maxRecDepth 100000 in
theorem c_L_errors (l : Launch) (g : GP) (ad : Nat → Nat) (n : Nat) (K : Nat → Nat) (sz F : Nat) (S0 : St) (r9 : Int32) (S9 : St) (n9 : Nat) (hf : f_L_errors F S0 n = some (r9, S9, n9)) : Met l yL_errors wsL_errors { frames := 9, cells := 648, slots := 165707, locals := 200 } (va_Pc [] (PB g ad n K S0 sz)) (QA ad K n (fun _ => (some (.int r9))) g n9 S9 (dA ad n sz) (fun _ => True)) 648 165707 (dA ad n sz) := by
  refine Met.ofW (cc := cL_errors) (maxL := 6) (ret := (some .boolean)) (by decide) rfl ?_
  intro p e s m args below meth c s₁ B hml hv
  obtain ⟨rfl, hsz, hW, hK, hGs⟩ := x_start hv
  subst hsz
  have hx := B.exec
  have hb := B.bytes
  have hr := B.returns
  have hts := atoms_spec (ws := wsL_errors) B.pre
  have hown : s.vm.findClass RL = some m.cls := findClass_of_methodNamed B.named
  have hlk := B.notSynchronized
  have hC : Cx g p s m _ c cL_errors RL wsL_errors 6 := ⟨hx, hb, hml, hown, hts, hK⟩
  have hA : ∀ q : Nat, s.heap.size ≤ q → dA ad n s.heap.size q := fun q h => Or.inr h
  have hS : va_S (dA ad n s.heap.size) s.heap s.heap [] := va_S.rf
  have hl := lv_entry ([]) (n := 6) (Nat.le_of_ble_eq_true rfl)
  rw [lg_entry_eq]
  generalize (lg_sl ([]) ++ List.replicate (6 - (lg_sl ([])).length) Slot.unset).toArray = ls at hl ⊢
  have hl : lv_has ls 6 [] := hl
  have hinJ4 : ∀ w ∈ wsJ40, w ∈ wsL_errors := fun w h => List.mem_cons_of_mem _ (inlJ4 w h)
  have hinX10 : ∀ w ∈ wsX100, w ∈ wsL_errors := fun w h => List.mem_cons_of_mem _ (inlX10 w h)
  have w_0 := hts (.classLink RL 25 RX10) (by decide +kernel)
  have w_1 := hts (.instantiable RX10 11) (by decide +kernel)
  have w_2 := hts (.initialized RX10) (by decide +kernel)
  have w_3 := hts (.methodLink RL 190 yX10_init) (by decide +kernel)
  have w_4 := hts (.instanceMethod yX10_init) (by decide +kernel)
  have w_5 := hts (.classLink RL 51 RJ4) (by decide +kernel)
  have w_6 := hts (.instantiable RJ4 4) (by decide +kernel)
  have w_7 := hts (.initialized RJ4) (by decide +kernel)
  have w_8 := hts (.methodLink RL 193 yJ4_init_da8c8) (by decide +kernel)
  have w_9 := hts (.instanceMethod yJ4_init_da8c8) (by decide +kernel)
  have w_10 := hts (.methodLink RL 55 yJ4_init_a7421) (by decide +kernel)
  have w_11 := hts (.instanceMethod yJ4_init_a7421) (by decide +kernel)
  have hGE := hGs.2.2.2.1
  have hGM := hGs.2.2.2.2
  have L470 : ∀ (fu470 : Nat) (adL KL : Nat → Nat) (nL : Nat) (hagL : Ag ad K n adL KL nL) (cs ss : Nat) (hcs : cs + (fu470 * 3 + 22) ≤ 648) (hss : ss + (fu470 * 3072 + 1176) ≤ 165707) (S0 : St) (v0 : Nat) (v4 : Nat) (v5 : Int32) (tv0 : v0 < nL ∧ KL v0 = 9) (tv4 : v4 < nL ∧ KL v4 = 10) (H : Heap) (locs : List Loc) (ls : Array Slot), f_L_errors_L470 F fu470 S0 nL v0 v4 v5 = some (r9, S9, n9) → Wb g adL nL KL S0 (dA ad n s.heap.size) H → va_S (dA ad n s.heap.size) s.heap H locs → lv_has ls 6 [(0, .ref (adL v0)), (4, .ref (adL v4)), (5, .int v5)] → W p l e (headSpec wsL_errors { frames := 9, cells := 648, slots := 165707, locals := 200 }).room s m (List.toArray []) below meth c H locs cs ss (MQ below (QA ad K n (fun _ => (some (.int r9))) g n9 S9 (dA ad n s.heap.size) (fun _ => True)) (List.toArray []) s 648 165707 (dA ad n s.heap.size)) (F0 m 470 ls []) := by
    intro fu470
    induction fu470 with
    | zero =>
      intro adL KL nL hagL cs ss hcs hss S0 v0 v4 v5 tv0 tv4 H locs ls hf
      cases hf
    | succ fu470 ih470 =>
      intro adL KL nL hagL cs ss hcs hss S0 v0 v4 v5 tv0 tv4 H locs ls hf hW hS hl
      unfold f_L_errors_L470 at hf
      refine lv_iload hx hb dL_errors_470 (lv_at hl 2 rfl) ?_
      refine lv_bipush (v := 9) hx hb dL_errors_472 (by decide) ?_
      refine lv_icmp_ge (tgt := 505) hx hb dL_errors_474 (by decide) (fun c77 => ?_) (fun c77 => ?_)
      · replace hf := ifT c77 hf
        refine lv_aload_n hx hb dL_errors_505 rfl (lv_at hl 0 rfl) ?_
        refine lv_aload hx hb dL_errors_506 (lv_at hl 1 rfl) ?_
        replace hf := obE hf
        obtain ⟨z78, hz78, hf⟩ := hf
        obtain ⟨r80, S79, n81⟩ := z78
        replace hf := ltE (ltE (ltE hf r80 rfl) S79 rfl) n81 rfl
        refine x_acallV (As := []) (rest := [.ref (adL v0)]) (S1 := S79) (n1 := n81) (o := (fun a => some (.ref (sad g a r80)))) (P := (fun K9 => tS 18 n81 K9 r80)) hC hl.1 hW hS hGs hA tv4 rfl (show vwCl[10]? = some (RJ4, TJ4, 4) ∧ ob 10 from ⟨rfl, by decide⟩) (c_J4_toString_0e30d l g adL nL KL H.size F S0 v4 tv4 r80 S79 n81 hz78) (cwV 0 hts gL_errors_J4_toString_0e30d rfl rfl rfl (by decide +kernel) ⟨Nat.le_of_ble_eq_true rfl, Nat.le_of_ble_eq_true rfl⟩) rfl rfl (Nat.le_of_ble_eq_true rfl) dL_errors_508 ⟨(show cs + 2 ≤ 648 by omega), (show ss + 1028 ≤ 165707 by omega)⟩ (fun ad82 K83 H locs hag84 hPz78 hW hS => ?_)
        have g85 := hag84.t tv0
        have g86 := hag84.e tv0 rfl
        have g87 := hag84.t tv4
        have g88 := hag84.e tv4 rfl
        have ag89 := (hagL).tr hag84
        refine W.widen (k := (cs + 2)) (n := (ss + 1028)) (by omega) (by omega) ?_
        refine W.eq (g2 := F0 m 511 ls [.ref ((sad g ad82 r80)), .ref (adL v0)]) rfl ?_
        refine lv_iconst (v := 4) hx hb dL_errors_511 (by decide) ?_
        refine lv_sipush (v := 150) hx hb dL_errors_512 (by decide) ?_
        replace hf := obE hf
        obtain ⟨z90, hz90, hf⟩ := hf
        obtain ⟨r92, S91, n93⟩ := z90
        replace hf := ltE (ltE (ltE hf r92 rfl) S91 rfl) n93 rfl
        refine x_acallS (As := [.ref (ad82 v0), .ref ((sad g ad82 r80)), .int 4, .int 150]) (rest := []) (S1 := S91) (n1 := n93) (o := (fun _ => some (.int r92))) (P := (fun _ => True)) hC hl.1 hW hS hGs hA (c_L_wrong l g ad82 n81 K83 H.size F S79 v0 r80 ((4 : Int32)) ((150 : Int32)) g85 hPz78 r92 S91 n93 hz90) (va_cwS 4 hts gL_errors_L_wrong rfl rfl rfl (by decide +kernel) ⟨Nat.le_of_ble_eq_true rfl, Nat.le_of_ble_eq_true rfl⟩) rfl (by rw [g86] <;> rfl) (Nat.le_of_ble_eq_true rfl) dL_errors_515 ⟨(show (cs + 2) + 20 ≤ 648 by omega), (show (ss + 1028) + 148 ≤ 165707 by omega)⟩ (fun ad94 K95 H locs hag96 hPz90 hW hS => ?_)
        have g97 := hag96.t g85
        have g98 := hag96.e g85 g86
        have g99 := hag96.t g87
        have g100 := hag96.e g87 g88
        have ag101 := (ag89).tr hag96
        refine W.widen (k := (cs + 22)) (n := (ss + 1176)) (by omega) (by omega) ?_
        refine W.eq (g2 := F0 m 518 ls [.int r92]) rfl ?_
        refine lv_if_eq (tgt := 540) hx hb dL_errors_518 (by decide) (fun c102 => ?_) (fun c102 => ?_)
        · replace hf := ifT c102 hf
          refine lv_iconst (v := 0) hx hb dL_errors_540 (by decide) ?_
          obtain ⟨e1, e2, e3⟩ := so3 hf
          subst e1
          subst e2
          subst e3
          refine W.widen (k := 648) (n := 165707) (by omega) (by omega) ?_
          exact W.zret (v := 0) hx hb hr rfl (fun t ht hWm => ⟨⟨ad94, K95, rfl, ag101, trivial, by rw [ht]; exact hW⟩, hS.F ht⟩) hS.2.2 dL_errors_541 hlk
        · replace hf := ifF c102 hf
          refine lv_aload_n hx hb dL_errors_521 rfl (lv_at hl 0 rfl) ?_
          refine lv_iconst (v := 0) hx hb dL_errors_522 (by decide) ?_
          replace hf := obE hf
          obtain ⟨z103, hz103, hf⟩ := hf
          obtain ⟨oz103, S104⟩ := z103
          replace hf := ltE hf S104 rfl
          cases oz103 with
          | inl x =>
            replace hf := smL rfl hf
            cases hf
          | inr r105 =>
            replace hf := smR rfl hf
            refine x_callV (As := [.int 0]) (rest := []) (o := (some (.int r105))) (S1 := S104) (P := True) hC hl.1 hW hS hGs hA g97 rfl (show vwCl[9]? = some (RX10, TX10, 11) ∧ ob 9 from ⟨rfl, by decide⟩) (c_X10_count l g ad94 n93 K95 H.size F S91 v0 ((0 : Int32)) g97 r105 S104 hz103) (cwV 1 hts gL_errors_X10_count rfl rfl rfl (by decide +kernel) ⟨Nat.le_of_ble_eq_true rfl, Nat.le_of_ble_eq_true rfl⟩) rfl (by rw [g98] <;> rfl) (Nat.le_of_ble_eq_true rfl) dL_errors_523 ⟨show (cs + 22) ≤ 648 by omega, show (ss + 1176) ≤ 165707 by omega⟩ (fun H locs hPz103 hW hS => ?_)
            refine W.eq (g2 := F0 m 526 ls [.int r105]) rfl ?_
            refine lv_if_ne (tgt := 540) hx hb dL_errors_526 (by decide) (fun c107 => ?_) (fun c107 => ?_)
            · replace hf := ifT c107 hf
              refine lv_iconst (v := 0) hx hb dL_errors_540 (by decide) ?_
              obtain ⟨e1, e2, e3⟩ := so3 hf
              subst e1
              subst e2
              subst e3
              refine W.widen (k := 648) (n := 165707) (by omega) (by omega) ?_
              exact W.zret (v := 0) hx hb hr rfl (fun t ht hWm => ⟨⟨ad94, K95, rfl, ag101, trivial, by rw [ht]; exact hW⟩, hS.F ht⟩) hS.2.2 dL_errors_541 hlk
            · replace hf := ifF (fun q => q c107) hf
              refine lv_aload_n hx hb dL_errors_529 rfl (lv_at hl 0 rfl) ?_
              replace hf := obE hf
              obtain ⟨z108, hz108, hf⟩ := hf
              obtain ⟨r110, S109⟩ := z108
              replace hf := ltE (ltE hf r110 rfl) S109 rfl
              refine x_callV (As := []) (rest := []) (o := (some (.int r110))) (S1 := S109) hC hl.1 hW hS hGs hA g97 rfl (show vwCl[9]? = some (RX10, TX10, 11) ∧ ob 9 from ⟨rfl, by decide⟩) (c_X10_undoCount l g ad94 n93 K95 H.size F S104 v0 g97 r110 S109 hz108) (cwV 0 hts gL_errors_X10_undoCount rfl rfl rfl (by decide +kernel) ⟨Nat.le_of_ble_eq_true rfl, Nat.le_of_ble_eq_true rfl⟩) rfl (by rw [g98] <;> rfl) (Nat.le_of_ble_eq_true rfl) dL_errors_530 ⟨show (cs + 22) ≤ 648 by omega, show (ss + 1176) ≤ 165707 by omega⟩ (fun H locs hPz108 hW hS => ?_)
              refine W.eq (g2 := F0 m 533 ls [.int r110]) rfl ?_
              refine lv_if_ne (tgt := 540) hx hb dL_errors_533 (by decide) (fun c112 => ?_) (fun c112 => ?_)
              · replace hf := ifT c112 hf
                refine lv_iconst (v := 0) hx hb dL_errors_540 (by decide) ?_
                obtain ⟨e1, e2, e3⟩ := so3 hf
                subst e1
                subst e2
                subst e3
                refine W.widen (k := 648) (n := 165707) (by omega) (by omega) ?_
                exact W.zret (v := 0) hx hb hr rfl (fun t ht hWm => ⟨⟨ad94, K95, rfl, ag101, trivial, by rw [ht]; exact hW⟩, hS.F ht⟩) hS.2.2 dL_errors_541 hlk
              · replace hf := ifF (fun q => q c112) hf
                refine lv_iconst (v := 1) hx hb dL_errors_536 (by decide) ?_
                refine lv_goto (tgt := 541) hx hb dL_errors_537 (by decide) ?_
                obtain ⟨e1, e2, e3⟩ := so3 hf
                subst e1
                subst e2
                subst e3
                refine W.widen (k := 648) (n := 165707) (by omega) (by omega) ?_
                exact W.zret (v := 1) hx hb hr rfl (fun t ht hWm => ⟨⟨ad94, K95, rfl, ag101, trivial, by rw [ht]; exact hW⟩, hS.F ht⟩) hS.2.2 dL_errors_541 hlk
      · replace hf := ifF c77 hf
        refine lv_aload hx hb dL_errors_477 (lv_at hl 1 rfl) ?_
        refine x_ldcM 39 (tx := "class k") hC hGM ⟨rfl, by decide⟩ dL_errors_479 ?_
        replace hf := obE hf
        obtain ⟨z113, hz113, hf⟩ := hf
        obtain ⟨r115, S114, n116⟩ := z113
        replace hf := ltE (ltE (ltE hf r115 rfl) S114 rfl) n116 rfl
        refine x_acallV (As := [.ref (sad g adL ((39 : Nat)))]) (rest := []) (S1 := S114) (n1 := n116) (o := (fun a => some (va_re a r115))) (P := (fun K9 => ∀ j, r115 = some j → j < n116 ∧ K9 j = 10)) hC hl.1 hW hS hGs hA tv4 rfl (show vwCl[10]? = some (RJ4, TJ4, 4) ∧ ob 10 from ⟨rfl, by decide⟩) (c_J4_append_15ec4 l g adL nL KL H.size F S0 v4 ((39 : Nat)) tv4 (tS_c (by decide)) r115 S114 n116 hz113) (cwV 1 hts gL_errors_J4_append_15ec4 rfl rfl rfl (by decide +kernel) ⟨Nat.le_of_ble_eq_true rfl, Nat.le_of_ble_eq_true rfl⟩) rfl rfl (Nat.le_of_ble_eq_true rfl) dL_errors_481 ⟨(show cs + 1 ≤ 648 by omega), (show ss + 1024 ≤ 165707 by omega)⟩ (fun ad117 K118 H locs hag119 hPz113 hW hS => ?_)
        have g120 := hag119.t tv0
        have g121 := hag119.e tv0 rfl
        have g122 := hag119.t tv4
        have g123 := hag119.e tv4 rfl
        have ag124 := (hagL).tr hag119
        refine W.widen (k := (cs + 1)) (n := (ss + 1024)) (by omega) (by omega) ?_
        replace hf := obE hf
        obtain ⟨j125, qj125, hf⟩ := hf
        have tj125 := hPz113 j125 qj125
        refine W.eq (g2 := F0 m 484 ls [.ref (ad117 j125)]) (by rw [qj125]; rfl) ?_
        refine lv_bipush (v := 97) hx hb dL_errors_484 (by decide) ?_
        refine lv_iload hx hb dL_errors_486 (lv_at hl 2 rfl) ?_
        refine lv_iadd hx hb dL_errors_488 ?_
        refine lv_i2c (v := ((97 + v5).toUInt32 % 65536).toInt32) hx hb dL_errors_489 rfl ?_
        replace hf := obE hf
        obtain ⟨z126, hz126, hf⟩ := hf
        obtain ⟨r128, S127, n129⟩ := z126
        replace hf := ltE (ltE (ltE hf r128 rfl) S127 rfl) n129 rfl
        refine x_acallV (As := [.int (((97 + v5).toUInt32 % 65536).toInt32)]) (rest := []) (S1 := S127) (n1 := n129) (o := (fun a => some (va_re a r128))) (P := (fun K9 => ∀ j, r128 = some j → j < n129 ∧ K9 j = 10)) hC hl.1 hW hS hGs hA tj125 rfl (show vwCl[10]? = some (RJ4, TJ4, 4) ∧ ob 10 from ⟨rfl, by decide⟩) (c_J4_append_cf468 l g ad117 n116 K118 H.size F S114 j125 (((97 + v5).toUInt32 % 65536).toInt32) tj125 r128 S127 n129 hz126) (cwV 1 hts gL_errors_J4_append_cf468 rfl rfl rfl (by decide +kernel) ⟨Nat.le_of_ble_eq_true rfl, Nat.le_of_ble_eq_true rfl⟩) rfl rfl (Nat.le_of_ble_eq_true rfl) dL_errors_490 ⟨(show (cs + 1) + 1 ≤ 648 by omega), (show (ss + 1024) + 1024 ≤ 165707 by omega)⟩ (fun ad130 K131 H locs hag132 hPz126 hW hS => ?_)
        have g133 := hag132.t g120
        have g134 := hag132.e g120 g121
        have g135 := hag132.t g122
        have g136 := hag132.e g122 g123
        have ag137 := (ag124).tr hag132
        refine W.widen (k := (cs + 2)) (n := (ss + 2048)) (by omega) (by omega) ?_
        replace hf := obE hf
        obtain ⟨j138, qj138, hf⟩ := hf
        have tj138 := hPz126 j138 qj138
        refine W.eq (g2 := F0 m 493 ls [.ref (ad130 j138)]) (by rw [qj138]; rfl) ?_
        refine x_ldcM 40 (tx := " days 1;") hC hGM ⟨rfl, by decide⟩ dL_errors_493 ?_
        replace hf := obE hf
        obtain ⟨z139, hz139, hf⟩ := hf
        obtain ⟨r141, S140, n142⟩ := z139
        replace hf := ltE (ltE (ltE hf r141 rfl) S140 rfl) n142 rfl
        refine x_acallV (As := [.ref (sad g ad130 ((40 : Nat)))]) (rest := []) (S1 := S140) (n1 := n142) (o := (fun a => some (va_re a r141))) (P := (fun K9 => ∀ j, r141 = some j → j < n142 ∧ K9 j = 10)) hC hl.1 hW hS hGs hA tj138 rfl (show vwCl[10]? = some (RJ4, TJ4, 4) ∧ ob 10 from ⟨rfl, by decide⟩) (c_J4_append_15ec4 l g ad130 n129 K131 H.size F S127 j138 ((40 : Nat)) tj138 (tS_c (by decide)) r141 S140 n142 hz139) (cwV 1 hts gL_errors_J4_append_15ec4 rfl rfl rfl (by decide +kernel) ⟨Nat.le_of_ble_eq_true rfl, Nat.le_of_ble_eq_true rfl⟩) rfl rfl (Nat.le_of_ble_eq_true rfl) dL_errors_495 ⟨(show (cs + 2) + 1 ≤ 648 by omega), (show (ss + 2048) + 1024 ≤ 165707 by omega)⟩ (fun ad143 K144 H locs hag145 hPz139 hW hS => ?_)
        have g146 := hag145.t g133
        have g147 := hag145.e g133 g134
        have g148 := hag145.t g135
        have g149 := hag145.e g135 g136
        have ag150 := (ag137).tr hag145
        refine W.widen (k := (cs + 3)) (n := (ss + 3072)) (by omega) (by omega) ?_
        replace hf := obE hf
        obtain ⟨j151, qj151, hf⟩ := hf
        have tj151 := hPz139 j151 qj151
        refine W.eq (g2 := F0 m 498 ls [.ref (ad143 j151)]) (by rw [qj151]; rfl) ?_
        refine lv_pop hx hb dL_errors_498 rfl ?_
        obtain ⟨x152, ex152⟩ : ∃ z : Int32, z = v5 + 1 := ⟨_, rfl⟩
        replace hf := ltE hf x152 ex152
        refine lv_iinc (v := x152) (lv' := [(5, .int x152), (0, .ref (adL v0)), (4, .ref (adL v4))]) hx hb dL_errors_499 hl (k := 2) rfl (by rw [ex152]; rfl) (by decide) rfl (fun ls hl => ?_)
        refine lv_goto (tgt := 470) hx hb dL_errors_502 (by decide) ?_
        exact ih470 ad143 K144 n142 ag150 (cs + 3) (ss + 3072) (by omega) (by omega) S140 v0 v4 x152 g146 g148 _ _ _ hf hW hS (lv_sub hl [1, 2, 0] (by rw [g147, g149] <;> rfl))
  unfold f_L_errors at hf
  refine x_new (ci := 9) (C := RX10) (T := TX10) (N := 11) hC hinX10 tyX10_ok hW hS hA ⟨rfl, by decide, by decide⟩ (by decide +kernel) w_0 w_1 w_2 (show 0 + 1 ≤ 648 by omega) (show 0 + 11 ≤ 165707 by omega) dL_errors_0 (fun q153 ad154 K155 S156 H eS156 hag158 eqq153 ekq153 hW hS => ?_)
  replace hf := ltE hf S156 eS156
  obtain ⟨n157, en157⟩ : ∃ z, z = n + 1 := ⟨_, rfl⟩
  rw [← en157] at hag158 hW
  replace hf := ltE hf n157 en157
  have tq153 : n < n157 ∧ K155 n = 9 := ⟨by omega, ekq153⟩
  have ag159 := (Ag.rf).tr hag158
  refine W.widen (k := 1) (n := 11) (by omega) (by omega) ?_
  refine lv_dup hx hb dL_errors_3 rfl ?_
  replace hf := obE hf
  obtain ⟨z160, hz160, hf⟩ := hf
  obtain ⟨S161, n163⟩ := z160
  replace hf := ltE (ltE hf S161 rfl) n163 rfl
  refine x_acallI (As := []) (rest := [.ref (q153)]) (S1 := S161) (n1 := n163) (o := (fun _ => none)) (P := (fun _ => True)) hC hl.1 hW hS hGs hA (c_X10_init l g ad154 n157 K155 H.size F S156 n tq153 S161 n163 hz160) (cwI 0 hts gL_errors_X10_init rfl rfl rfl w_2 w_3 w_4 rfl (by decide +kernel) ⟨Nat.le_of_ble_eq_true rfl, Nat.le_of_ble_eq_true rfl⟩) rfl (by rw [eqq153] <;> rfl) (Nat.le_of_ble_eq_true rfl) dL_errors_4 ⟨(show 1 + 196 ≤ 648 by omega), (show 11 + 77664 ≤ 165707 by omega)⟩ (fun ad164 K165 H locs hag166 hPz160 hW hS => ?_)
  have g167 := hag166.t tq153
  have g168 := hag166.e tq153 eqq153
  have ag169 := (ag159).tr hag166
  refine W.widen (k := 197) (n := 77675) (by omega) (by omega) ?_
  refine W.eq (g2 := F0 m 7 ls [.ref (q153)]) rfl ?_
  refine lv_astore_n (lv' := [(0, .ref (q153))]) hx hb dL_errors_7 rfl hl (by decide) rfl (fun ls hl => ?_)
  refine x_ldcM 21 (tx := "spool grace 1 round 2;") hC hGM ⟨rfl, by decide⟩ dL_errors_8 ?_
  refine lv_astore_n (lv' := [(1, .ref ((gen g (100 + 21)))), (0, .ref (q153))]) hx hb dL_errors_10 rfl hl (by decide) rfl (fun ls hl => ?_)
  refine x_new (ci := 10) (C := RJ4) (T := TJ4) (N := 4) hC hinJ4 tyJ4_ok hW hS hA ⟨rfl, by decide, by decide⟩ (by decide +kernel) w_5 w_6 w_7 (show 197 + 1 ≤ 648 by omega) (show 77675 + 4 ≤ 165707 by omega) dL_errors_11 (fun q170 ad171 K172 S173 H eS173 hag175 eqq170 ekq170 hW hS => ?_)
  replace hf := ltE hf S173 eS173
  obtain ⟨n174, en174⟩ : ∃ z, z = n163 + 1 := ⟨_, rfl⟩
  rw [← en174] at hag175 hW
  replace hf := ltE hf n174 en174
  have tq170 : n163 < n174 ∧ K172 n163 = 10 := ⟨by omega, ekq170⟩
  have g176 := hag175.t g167
  have g177 := hag175.e g167 g168
  have ag178 := (ag169).tr hag175
  refine W.widen (k := 198) (n := 77679) (by omega) (by omega) ?_
  refine lv_dup hx hb dL_errors_14 rfl ?_
  replace hf := obE hf
  obtain ⟨z179, hz179, hf⟩ := hf
  obtain ⟨S180, n182⟩ := z179
  replace hf := ltE (ltE hf S180 rfl) n182 rfl
  refine x_acallI (As := []) (rest := [.ref (q170)]) (S1 := S180) (n1 := n182) (o := (fun _ => none)) (P := (fun _ => True)) hC hl.1 hW hS hGs hA (c_J4_init_da8c8 l g ad171 n174 K172 H.size F S173 n163 tq170 S180 n182 hz179) (cwI 0 hts gL_errors_J4_init_da8c8 rfl rfl rfl w_7 w_8 w_9 rfl (by decide +kernel) ⟨Nat.le_of_ble_eq_true rfl, Nat.le_of_ble_eq_true rfl⟩) rfl (by rw [eqq170] <;> rfl) (Nat.le_of_ble_eq_true rfl) dL_errors_15 ⟨(show 198 + 1 ≤ 648 by omega), (show 77679 + 32 ≤ 165707 by omega)⟩ (fun ad183 K184 H locs hag185 hPz179 hW hS => ?_)
  have g186 := hag185.t g176
  have g187 := hag185.e g176 g177
  have g188 := hag185.t tq170
  have g189 := hag185.e tq170 eqq170
  have ag190 := (ag178).tr hag185
  refine W.widen (k := 199) (n := 77711) (by omega) (by omega) ?_
  refine W.eq (g2 := F0 m 18 ls [.ref (q170)]) rfl ?_
  refine lv_aload_n hx hb dL_errors_18 rfl (lv_at hl 0 rfl) ?_
  replace hf := obE hf
  obtain ⟨z191, hz191, hf⟩ := hf
  obtain ⟨r193, S192, n194⟩ := z191
  replace hf := ltE (ltE (ltE hf r193 rfl) S192 rfl) n194 rfl
  refine x_acallV (As := [.ref (sad g ad183 ((21 : Nat)))]) (rest := []) (S1 := S192) (n1 := n194) (o := (fun a => some (va_re a r193))) (P := (fun K9 => ∀ j, r193 = some j → j < n194 ∧ K9 j = 10)) hC hl.1 hW hS hGs hA g188 rfl (show vwCl[10]? = some (RJ4, TJ4, 4) ∧ ob 10 from ⟨rfl, by decide⟩) (c_J4_append_15ec4 l g ad183 n182 K184 H.size F S180 n163 ((21 : Nat)) g188 (tS_c (by decide)) r193 S192 n194 hz191) (cwV 1 hts gL_errors_J4_append_15ec4 rfl rfl rfl (by decide +kernel) ⟨Nat.le_of_ble_eq_true rfl, Nat.le_of_ble_eq_true rfl⟩) rfl (by rw [g189] <;> rfl) (Nat.le_of_ble_eq_true rfl) dL_errors_19 ⟨(show 199 + 1 ≤ 648 by omega), (show 77711 + 1024 ≤ 165707 by omega)⟩ (fun ad195 K196 H locs hag197 hPz191 hW hS => ?_)
  have g198 := hag197.t g186
  have g199 := hag197.e g186 g187
  have ag200 := (ag190).tr hag197
  refine W.widen (k := 200) (n := 78735) (by omega) (by omega) ?_
  replace hf := obE hf
  obtain ⟨j201, qj201, hf⟩ := hf
  have tj201 := hPz191 j201 qj201
  refine W.eq (g2 := F0 m 22 ls [.ref (ad195 j201)]) (by rw [qj201]; rfl) ?_
  refine x_ldcM 22 (tx := "class a days 5;") hC hGM ⟨rfl, by decide⟩ dL_errors_22 ?_
  replace hf := obE hf
  obtain ⟨z202, hz202, hf⟩ := hf
  obtain ⟨r204, S203, n205⟩ := z202
  replace hf := ltE (ltE (ltE hf r204 rfl) S203 rfl) n205 rfl
  refine x_acallV (As := [.ref (sad g ad195 ((22 : Nat)))]) (rest := []) (S1 := S203) (n1 := n205) (o := (fun a => some (va_re a r204))) (P := (fun K9 => ∀ j, r204 = some j → j < n205 ∧ K9 j = 10)) hC hl.1 hW hS hGs hA tj201 rfl (show vwCl[10]? = some (RJ4, TJ4, 4) ∧ ob 10 from ⟨rfl, by decide⟩) (c_J4_append_15ec4 l g ad195 n194 K196 H.size F S192 j201 ((22 : Nat)) tj201 (tS_c (by decide)) r204 S203 n205 hz202) (cwV 1 hts gL_errors_J4_append_15ec4 rfl rfl rfl (by decide +kernel) ⟨Nat.le_of_ble_eq_true rfl, Nat.le_of_ble_eq_true rfl⟩) rfl rfl (Nat.le_of_ble_eq_true rfl) dL_errors_24 ⟨(show 200 + 1 ≤ 648 by omega), (show 78735 + 1024 ≤ 165707 by omega)⟩ (fun ad206 K207 H locs hag208 hPz202 hW hS => ?_)
  have g209 := hag208.t g198
  have g210 := hag208.e g198 g199
  have ag211 := (ag200).tr hag208
  refine W.widen (k := 201) (n := 79759) (by omega) (by omega) ?_
  replace hf := obE hf
  obtain ⟨j212, qj212, hf⟩ := hf
  have tj212 := hPz202 j212 qj212
  refine W.eq (g2 := F0 m 27 ls [.ref (ad206 j212)]) (by rw [qj212]; rfl) ?_
  replace hf := obE hf
  obtain ⟨z213, hz213, hf⟩ := hf
  obtain ⟨r215, S214, n216⟩ := z213
  replace hf := ltE (ltE (ltE hf r215 rfl) S214 rfl) n216 rfl
  refine x_acallV (As := []) (rest := []) (S1 := S214) (n1 := n216) (o := (fun a => some (.ref (sad g a r215)))) (P := (fun K9 => tS 18 n216 K9 r215)) hC hl.1 hW hS hGs hA tj212 rfl (show vwCl[10]? = some (RJ4, TJ4, 4) ∧ ob 10 from ⟨rfl, by decide⟩) (c_J4_toString_0e30d l g ad206 n205 K207 H.size F S203 j212 tj212 r215 S214 n216 hz213) (cwV 0 hts gL_errors_J4_toString_0e30d rfl rfl rfl (by decide +kernel) ⟨Nat.le_of_ble_eq_true rfl, Nat.le_of_ble_eq_true rfl⟩) rfl rfl (Nat.le_of_ble_eq_true rfl) dL_errors_27 ⟨(show 201 + 2 ≤ 648 by omega), (show 79759 + 1028 ≤ 165707 by omega)⟩ (fun ad217 K218 H locs hag219 hPz213 hW hS => ?_)
  have g220 := hag219.t g209
  have g221 := hag219.e g209 g210
  have ag222 := (ag211).tr hag219
  refine W.widen (k := 203) (n := 80787) (by omega) (by omega) ?_
  refine W.eq (g2 := F0 m 30 ls [.ref ((sad g ad217 r215))]) rfl ?_
  refine lv_astore_n (lv' := [(2, .ref ((sad g ad217 r215))), (1, .ref ((gen g (100 + 21)))), (0, .ref (q153))]) hx hb dL_errors_30 rfl hl (by decide) rfl (fun ls hl => ?_)
  refine x_new (ci := 10) (C := RJ4) (T := TJ4) (N := 4) hC hinJ4 tyJ4_ok hW hS hA ⟨rfl, by decide, by decide⟩ (by decide +kernel) w_5 w_6 w_7 (show 203 + 1 ≤ 648 by omega) (show 80787 + 4 ≤ 165707 by omega) dL_errors_31 (fun q223 ad224 K225 S226 H eS226 hag228 eqq223 ekq223 hW hS => ?_)
  replace hf := ltE hf S226 eS226
  obtain ⟨n227, en227⟩ : ∃ z, z = n216 + 1 := ⟨_, rfl⟩
  rw [← en227] at hag228 hW
  replace hf := ltE hf n227 en227
  have tq223 : n216 < n227 ∧ K225 n216 = 10 := ⟨by omega, ekq223⟩
  have g229 := hag228.s hPz213
  have g230 := hag228.se (g := g) hPz213 rfl
  have g231 := hag228.t g220
  have g232 := hag228.e g220 g221
  have ag233 := (ag222).tr hag228
  refine W.widen (k := 204) (n := 80791) (by omega) (by omega) ?_
  refine lv_dup hx hb dL_errors_34 rfl ?_
  replace hf := obE hf
  obtain ⟨z234, hz234, hf⟩ := hf
  obtain ⟨S235, n237⟩ := z234
  replace hf := ltE (ltE hf S235 rfl) n237 rfl
  refine x_acallI (As := []) (rest := [.ref (q223)]) (S1 := S235) (n1 := n237) (o := (fun _ => none)) (P := (fun _ => True)) hC hl.1 hW hS hGs hA (c_J4_init_da8c8 l g ad224 n227 K225 H.size F S226 n216 tq223 S235 n237 hz234) (cwI 0 hts gL_errors_J4_init_da8c8 rfl rfl rfl w_7 w_8 w_9 rfl (by decide +kernel) ⟨Nat.le_of_ble_eq_true rfl, Nat.le_of_ble_eq_true rfl⟩) rfl (by rw [eqq223] <;> rfl) (Nat.le_of_ble_eq_true rfl) dL_errors_35 ⟨(show 204 + 1 ≤ 648 by omega), (show 80791 + 32 ≤ 165707 by omega)⟩ (fun ad238 K239 H locs hag240 hPz234 hW hS => ?_)
  have g241 := hag240.s g229
  have g242 := hag240.se (g := g) g229 g230
  have g243 := hag240.t g231
  have g244 := hag240.e g231 g232
  have g245 := hag240.t tq223
  have g246 := hag240.e tq223 eqq223
  have ag247 := (ag233).tr hag240
  refine W.widen (k := 205) (n := 80823) (by omega) (by omega) ?_
  refine W.eq (g2 := F0 m 38 ls [.ref (q223)]) rfl ?_
  refine lv_aload_n hx hb dL_errors_38 rfl (lv_at hl 0 rfl) ?_
  replace hf := obE hf
  obtain ⟨z248, hz248, hf⟩ := hf
  obtain ⟨r250, S249, n251⟩ := z248
  replace hf := ltE (ltE (ltE hf r250 rfl) S249 rfl) n251 rfl
  refine x_acallV (As := [.ref (sad g ad238 r215)]) (rest := []) (S1 := S249) (n1 := n251) (o := (fun a => some (va_re a r250))) (P := (fun K9 => ∀ j, r250 = some j → j < n251 ∧ K9 j = 10)) hC hl.1 hW hS hGs hA g245 rfl (show vwCl[10]? = some (RJ4, TJ4, 4) ∧ ob 10 from ⟨rfl, by decide⟩) (c_J4_append_15ec4 l g ad238 n237 K239 H.size F S235 n216 r215 g245 g241 r250 S249 n251 hz248) (cwV 1 hts gL_errors_J4_append_15ec4 rfl rfl rfl (by decide +kernel) ⟨Nat.le_of_ble_eq_true rfl, Nat.le_of_ble_eq_true rfl⟩) rfl (by rw [g246, g242] <;> rfl) (Nat.le_of_ble_eq_true rfl) dL_errors_39 ⟨(show 205 + 1 ≤ 648 by omega), (show 80823 + 1024 ≤ 165707 by omega)⟩ (fun ad252 K253 H locs hag254 hPz248 hW hS => ?_)
  have g255 := hag254.s g241
  have g256 := hag254.se (g := g) g241 g242
  have g257 := hag254.t g243
  have g258 := hag254.e g243 g244
  have ag259 := (ag247).tr hag254
  refine W.widen (k := 206) (n := 81847) (by omega) (by omega) ?_
  replace hf := obE hf
  obtain ⟨j260, qj260, hf⟩ := hf
  have tj260 := hPz248 j260 qj260
  refine W.eq (g2 := F0 m 42 ls [.ref (ad252 j260)]) (by rw [qj260]; rfl) ?_
  refine x_ldcM 23 (tx := "user b class a quota 9;") hC hGM ⟨rfl, by decide⟩ dL_errors_42 ?_
  replace hf := obE hf
  obtain ⟨z261, hz261, hf⟩ := hf
  obtain ⟨r263, S262, n264⟩ := z261
  replace hf := ltE (ltE (ltE hf r263 rfl) S262 rfl) n264 rfl
  refine x_acallV (As := [.ref (sad g ad252 ((23 : Nat)))]) (rest := []) (S1 := S262) (n1 := n264) (o := (fun a => some (va_re a r263))) (P := (fun K9 => ∀ j, r263 = some j → j < n264 ∧ K9 j = 10)) hC hl.1 hW hS hGs hA tj260 rfl (show vwCl[10]? = some (RJ4, TJ4, 4) ∧ ob 10 from ⟨rfl, by decide⟩) (c_J4_append_15ec4 l g ad252 n251 K253 H.size F S249 j260 ((23 : Nat)) tj260 (tS_c (by decide)) r263 S262 n264 hz261) (cwV 1 hts gL_errors_J4_append_15ec4 rfl rfl rfl (by decide +kernel) ⟨Nat.le_of_ble_eq_true rfl, Nat.le_of_ble_eq_true rfl⟩) rfl rfl (Nat.le_of_ble_eq_true rfl) dL_errors_44 ⟨(show 206 + 1 ≤ 648 by omega), (show 81847 + 1024 ≤ 165707 by omega)⟩ (fun ad265 K266 H locs hag267 hPz261 hW hS => ?_)
  have g268 := hag267.s g255
  have g269 := hag267.se (g := g) g255 g256
  have g270 := hag267.t g257
  have g271 := hag267.e g257 g258
  have ag272 := (ag259).tr hag267
  refine W.widen (k := 207) (n := 82871) (by omega) (by omega) ?_
  replace hf := obE hf
  obtain ⟨j273, qj273, hf⟩ := hf
  have tj273 := hPz261 j273 qj273
  refine W.eq (g2 := F0 m 47 ls [.ref (ad265 j273)]) (by rw [qj273]; rfl) ?_
  replace hf := obE hf
  obtain ⟨z274, hz274, hf⟩ := hf
  obtain ⟨r276, S275, n277⟩ := z274
  replace hf := ltE (ltE (ltE hf r276 rfl) S275 rfl) n277 rfl
  refine x_acallV (As := []) (rest := []) (S1 := S275) (n1 := n277) (o := (fun a => some (.ref (sad g a r276)))) (P := (fun K9 => tS 18 n277 K9 r276)) hC hl.1 hW hS hGs hA tj273 rfl (show vwCl[10]? = some (RJ4, TJ4, 4) ∧ ob 10 from ⟨rfl, by decide⟩) (c_J4_toString_0e30d l g ad265 n264 K266 H.size F S262 j273 tj273 r276 S275 n277 hz274) (cwV 0 hts gL_errors_J4_toString_0e30d rfl rfl rfl (by decide +kernel) ⟨Nat.le_of_ble_eq_true rfl, Nat.le_of_ble_eq_true rfl⟩) rfl rfl (Nat.le_of_ble_eq_true rfl) dL_errors_47 ⟨(show 207 + 2 ≤ 648 by omega), (show 82871 + 1028 ≤ 165707 by omega)⟩ (fun ad278 K279 H locs hag280 hPz274 hW hS => ?_)
  have g281 := hag280.s g268
  have g282 := hag280.se (g := g) g268 g269
  have g283 := hag280.t g270
  have g284 := hag280.e g270 g271
  have ag285 := (ag272).tr hag280
  refine W.widen (k := 209) (n := 83899) (by omega) (by omega) ?_
  refine W.eq (g2 := F0 m 50 ls [.ref ((sad g ad278 r276))]) rfl ?_
  refine lv_astore_n (lv' := [(3, .ref ((sad g ad278 r276))), (2, .ref ((sad g ad217 r215))), (1, .ref ((gen g (100 + 21)))), (0, .ref (q153))]) hx hb dL_errors_50 rfl hl (by decide) rfl (fun ls hl => ?_)
  refine lv_aload_n hx hb dL_errors_51 rfl (lv_at hl 3 rfl) ?_
  refine x_ldcM 24 (tx := "") hC hGM ⟨rfl, by decide⟩ dL_errors_52 ?_
  refine lv_iconst (v := 1) hx hb dL_errors_54 (by decide) ?_
  refine lv_iconst (v := 0) hx hb dL_errors_55 (by decide) ?_
  replace hf := obE hf
  obtain ⟨z286, hz286, hf⟩ := hf
  obtain ⟨r288, S287, n289⟩ := z286
  replace hf := ltE (ltE (ltE hf r288 rfl) S287 rfl) n289 rfl
  refine x_acallS (As := [.ref (ad278 n), .ref (sad g ad278 ((24 : Nat))), .int 1, .int 0]) (rest := []) (S1 := S287) (n1 := n289) (o := (fun _ => some (.int r288))) (P := (fun _ => True)) hC hl.1 hW hS hGs hA (c_L_wrong l g ad278 n277 K279 H.size F S275 n ((24 : Nat)) ((1 : Int32)) ((0 : Int32)) g283 (tS_c (by decide)) r288 S287 n289 hz286) (va_cwS 4 hts gL_errors_L_wrong rfl rfl rfl (by decide +kernel) ⟨Nat.le_of_ble_eq_true rfl, Nat.le_of_ble_eq_true rfl⟩) rfl (by rw [g284] <;> rfl) (Nat.le_of_ble_eq_true rfl) dL_errors_56 ⟨(show 209 + 20 ≤ 648 by omega), (show 83899 + 148 ≤ 165707 by omega)⟩ (fun ad290 K291 H locs hag292 hPz286 hW hS => ?_)
  have g293 := hag292.s hPz274
  have g294 := hag292.se (g := g) hPz274 rfl
  have g295 := hag292.s g281
  have g296 := hag292.se (g := g) g281 g282
  have g297 := hag292.t g283
  have g298 := hag292.e g283 g284
  have ag299 := (ag285).tr hag292
  refine W.widen (k := 229) (n := 84047) (by omega) (by omega) ?_
  refine W.eq (g2 := F0 m 59 ls [.int r288]) rfl ?_
  refine lv_if_eq (tgt := 190) hx hb dL_errors_59 (by decide) (fun c300 => ?_) (fun c300 => ?_)
  · replace hf := ifT c300 hf
    refine lv_iconst (v := 0) hx hb dL_errors_190 (by decide) ?_
    obtain ⟨e1, e2, e3⟩ := so3 hf
    subst e1
    subst e2
    subst e3
    refine W.widen (k := 648) (n := 165707) (by omega) (by omega) ?_
    exact W.zret (v := 0) hx hb hr rfl (fun t ht hWm => ⟨⟨ad290, K291, rfl, ag299, trivial, by rw [ht]; exact hW⟩, hS.F ht⟩) hS.2.2 dL_errors_191 hlk
  · replace hf := ifF c300 hf
    refine lv_aload_n hx hb dL_errors_62 rfl (lv_at hl 3 rfl) ?_
    refine x_ldcM 25 (tx := "spool grace 31 round 1;") hC hGM ⟨rfl, by decide⟩ dL_errors_63 ?_
    refine lv_iconst (v := 2) hx hb dL_errors_65 (by decide) ?_
    refine lv_bipush (v := 12) hx hb dL_errors_66 (by decide) ?_
    replace hf := obE hf
    obtain ⟨z301, hz301, hf⟩ := hf
    obtain ⟨r303, S302, n304⟩ := z301
    replace hf := ltE (ltE (ltE hf r303 rfl) S302 rfl) n304 rfl
    refine x_acallS (As := [.ref (ad290 n), .ref (sad g ad290 ((25 : Nat))), .int 2, .int 12]) (rest := []) (S1 := S302) (n1 := n304) (o := (fun _ => some (.int r303))) (P := (fun _ => True)) hC hl.1 hW hS hGs hA (c_L_wrong l g ad290 n289 K291 H.size F S287 n ((25 : Nat)) ((2 : Int32)) ((12 : Int32)) g297 (tS_c (by decide)) r303 S302 n304 hz301) (va_cwS 4 hts gL_errors_L_wrong rfl rfl rfl (by decide +kernel) ⟨Nat.le_of_ble_eq_true rfl, Nat.le_of_ble_eq_true rfl⟩) rfl (by rw [g298] <;> rfl) (Nat.le_of_ble_eq_true rfl) dL_errors_68 ⟨(show 229 + 20 ≤ 648 by omega), (show 84047 + 148 ≤ 165707 by omega)⟩ (fun ad305 K306 H locs hag307 hPz301 hW hS => ?_)
    have g308 := hag307.s g293
    have g309 := hag307.se (g := g) g293 g294
    have g310 := hag307.s g295
    have g311 := hag307.se (g := g) g295 g296
    have g312 := hag307.t g297
    have g313 := hag307.e g297 g298
    have ag314 := (ag299).tr hag307
    refine W.widen (k := 249) (n := 84195) (by omega) (by omega) ?_
    refine W.eq (g2 := F0 m 71 ls [.int r303]) rfl ?_
    refine lv_if_eq (tgt := 190) hx hb dL_errors_71 (by decide) (fun c315 => ?_) (fun c315 => ?_)
    · replace hf := ifT c315 hf
      refine lv_iconst (v := 0) hx hb dL_errors_190 (by decide) ?_
      obtain ⟨e1, e2, e3⟩ := so3 hf
      subst e1
      subst e2
      subst e3
      refine W.widen (k := 648) (n := 165707) (by omega) (by omega) ?_
      exact W.zret (v := 0) hx hb hr rfl (fun t ht hWm => ⟨⟨ad305, K306, rfl, ag314, trivial, by rw [ht]; exact hW⟩, hS.F ht⟩) hS.2.2 dL_errors_191 hlk
    · replace hf := ifF c315 hf
      refine lv_aload_n hx hb dL_errors_74 rfl (lv_at hl 3 rfl) ?_
      refine x_new (ci := 10) (C := RJ4) (T := TJ4) (N := 4) hC hinJ4 tyJ4_ok hW hS hA ⟨rfl, by decide, by decide⟩ (by decide +kernel) w_5 w_6 w_7 (show 249 + 1 ≤ 648 by omega) (show 84195 + 4 ≤ 165707 by omega) dL_errors_75 (fun q316 ad317 K318 S319 H eS319 hag321 eqq316 ekq316 hW hS => ?_)
      replace hf := ltE hf S319 eS319
      obtain ⟨n320, en320⟩ : ∃ z, z = n304 + 1 := ⟨_, rfl⟩
      rw [← en320] at hag321 hW
      replace hf := ltE hf n320 en320
      have tq316 : n304 < n320 ∧ K318 n304 = 10 := ⟨by omega, ekq316⟩
      have g322 := hag321.s g308
      have g323 := hag321.se (g := g) g308 g309
      have g324 := hag321.s g310
      have g325 := hag321.se (g := g) g310 g311
      have g326 := hag321.t g312
      have g327 := hag321.e g312 g313
      have ag328 := (ag314).tr hag321
      refine W.widen (k := 250) (n := 84199) (by omega) (by omega) ?_
      refine lv_dup hx hb dL_errors_78 rfl ?_
      replace hf := obE hf
      obtain ⟨z329, hz329, hf⟩ := hf
      obtain ⟨S330, n332⟩ := z329
      replace hf := ltE (ltE hf S330 rfl) n332 rfl
      refine x_acallI (As := []) (rest := [.ref (q316), .ref (q153)]) (S1 := S330) (n1 := n332) (o := (fun _ => none)) (P := (fun _ => True)) hC hl.1 hW hS hGs hA (c_J4_init_da8c8 l g ad317 n320 K318 H.size F S319 n304 tq316 S330 n332 hz329) (cwI 0 hts gL_errors_J4_init_da8c8 rfl rfl rfl w_7 w_8 w_9 rfl (by decide +kernel) ⟨Nat.le_of_ble_eq_true rfl, Nat.le_of_ble_eq_true rfl⟩) rfl (by rw [eqq316] <;> rfl) (Nat.le_of_ble_eq_true rfl) dL_errors_79 ⟨(show 250 + 1 ≤ 648 by omega), (show 84199 + 32 ≤ 165707 by omega)⟩ (fun ad333 K334 H locs hag335 hPz329 hW hS => ?_)
      have g336 := hag335.s g322
      have g337 := hag335.se (g := g) g322 g323
      have g338 := hag335.s g324
      have g339 := hag335.se (g := g) g324 g325
      have g340 := hag335.t g326
      have g341 := hag335.e g326 g327
      have g342 := hag335.t tq316
      have g343 := hag335.e tq316 eqq316
      have ag344 := (ag328).tr hag335
      refine W.widen (k := 251) (n := 84231) (by omega) (by omega) ?_
      refine W.eq (g2 := F0 m 82 ls [.ref (q316), .ref (q153)]) rfl ?_
      refine lv_aload_n hx hb dL_errors_82 rfl (lv_at hl 2 rfl) ?_
      replace hf := obE hf
      obtain ⟨z345, hz345, hf⟩ := hf
      obtain ⟨r347, S346, n348⟩ := z345
      replace hf := ltE (ltE (ltE hf r347 rfl) S346 rfl) n348 rfl
      refine x_acallV (As := [.ref (sad g ad333 ((21 : Nat)))]) (rest := [.ref (q153)]) (S1 := S346) (n1 := n348) (o := (fun a => some (va_re a r347))) (P := (fun K9 => ∀ j, r347 = some j → j < n348 ∧ K9 j = 10)) hC hl.1 hW hS hGs hA g342 rfl (show vwCl[10]? = some (RJ4, TJ4, 4) ∧ ob 10 from ⟨rfl, by decide⟩) (c_J4_append_15ec4 l g ad333 n332 K334 H.size F S330 n304 ((21 : Nat)) g342 (tS_c (by decide)) r347 S346 n348 hz345) (cwV 1 hts gL_errors_J4_append_15ec4 rfl rfl rfl (by decide +kernel) ⟨Nat.le_of_ble_eq_true rfl, Nat.le_of_ble_eq_true rfl⟩) rfl (by rw [g343] <;> rfl) (Nat.le_of_ble_eq_true rfl) dL_errors_83 ⟨(show 251 + 1 ≤ 648 by omega), (show 84231 + 1024 ≤ 165707 by omega)⟩ (fun ad349 K350 H locs hag351 hPz345 hW hS => ?_)
      have g352 := hag351.s g336
      have g353 := hag351.se (g := g) g336 g337
      have g354 := hag351.s g338
      have g355 := hag351.se (g := g) g338 g339
      have g356 := hag351.t g340
      have g357 := hag351.e g340 g341
      have ag358 := (ag344).tr hag351
      refine W.widen (k := 252) (n := 85255) (by omega) (by omega) ?_
      replace hf := obE hf
      obtain ⟨j359, qj359, hf⟩ := hf
      have tj359 := hPz345 j359 qj359
      refine W.eq (g2 := F0 m 86 ls [.ref (ad349 j359), .ref (q153)]) (by rw [qj359]; rfl) ?_
      refine x_ldcM 26 (tx := "user a class b quota 1;") hC hGM ⟨rfl, by decide⟩ dL_errors_86 ?_
      replace hf := obE hf
      obtain ⟨z360, hz360, hf⟩ := hf
      obtain ⟨r362, S361, n363⟩ := z360
      replace hf := ltE (ltE (ltE hf r362 rfl) S361 rfl) n363 rfl
      refine x_acallV (As := [.ref (sad g ad349 ((26 : Nat)))]) (rest := [.ref (q153)]) (S1 := S361) (n1 := n363) (o := (fun a => some (va_re a r362))) (P := (fun K9 => ∀ j, r362 = some j → j < n363 ∧ K9 j = 10)) hC hl.1 hW hS hGs hA tj359 rfl (show vwCl[10]? = some (RJ4, TJ4, 4) ∧ ob 10 from ⟨rfl, by decide⟩) (c_J4_append_15ec4 l g ad349 n348 K350 H.size F S346 j359 ((26 : Nat)) tj359 (tS_c (by decide)) r362 S361 n363 hz360) (cwV 1 hts gL_errors_J4_append_15ec4 rfl rfl rfl (by decide +kernel) ⟨Nat.le_of_ble_eq_true rfl, Nat.le_of_ble_eq_true rfl⟩) rfl rfl (Nat.le_of_ble_eq_true rfl) dL_errors_88 ⟨(show 252 + 1 ≤ 648 by omega), (show 85255 + 1024 ≤ 165707 by omega)⟩ (fun ad364 K365 H locs hag366 hPz360 hW hS => ?_)
      have g367 := hag366.s g352
      have g368 := hag366.se (g := g) g352 g353
      have g369 := hag366.s g354
      have g370 := hag366.se (g := g) g354 g355
      have g371 := hag366.t g356
      have g372 := hag366.e g356 g357
      have ag373 := (ag358).tr hag366
      refine W.widen (k := 253) (n := 86279) (by omega) (by omega) ?_
      replace hf := obE hf
      obtain ⟨j374, qj374, hf⟩ := hf
      have tj374 := hPz360 j374 qj374
      refine W.eq (g2 := F0 m 91 ls [.ref (ad364 j374), .ref (q153)]) (by rw [qj374]; rfl) ?_
      replace hf := obE hf
      obtain ⟨z375, hz375, hf⟩ := hf
      obtain ⟨r377, S376, n378⟩ := z375
      replace hf := ltE (ltE (ltE hf r377 rfl) S376 rfl) n378 rfl
      refine x_acallV (As := []) (rest := [.ref (q153)]) (S1 := S376) (n1 := n378) (o := (fun a => some (.ref (sad g a r377)))) (P := (fun K9 => tS 18 n378 K9 r377)) hC hl.1 hW hS hGs hA tj374 rfl (show vwCl[10]? = some (RJ4, TJ4, 4) ∧ ob 10 from ⟨rfl, by decide⟩) (c_J4_toString_0e30d l g ad364 n363 K365 H.size F S361 j374 tj374 r377 S376 n378 hz375) (cwV 0 hts gL_errors_J4_toString_0e30d rfl rfl rfl (by decide +kernel) ⟨Nat.le_of_ble_eq_true rfl, Nat.le_of_ble_eq_true rfl⟩) rfl rfl (Nat.le_of_ble_eq_true rfl) dL_errors_91 ⟨(show 253 + 2 ≤ 648 by omega), (show 86279 + 1028 ≤ 165707 by omega)⟩ (fun ad379 K380 H locs hag381 hPz375 hW hS => ?_)
      have g382 := hag381.s g367
      have g383 := hag381.se (g := g) g367 g368
      have g384 := hag381.s g369
      have g385 := hag381.se (g := g) g369 g370
      have g386 := hag381.t g371
      have g387 := hag381.e g371 g372
      have ag388 := (ag373).tr hag381
      refine W.widen (k := 255) (n := 87307) (by omega) (by omega) ?_
      refine W.eq (g2 := F0 m 94 ls [.ref ((sad g ad379 r377)), .ref (q153)]) rfl ?_
      refine lv_iconst (v := 4) hx hb dL_errors_94 (by decide) ?_
      refine lv_bipush (v := 22) hx hb dL_errors_95 (by decide) ?_
      replace hf := obE hf
      obtain ⟨z389, hz389, hf⟩ := hf
      obtain ⟨r391, S390, n392⟩ := z389
      replace hf := ltE (ltE (ltE hf r391 rfl) S390 rfl) n392 rfl
      refine x_acallS (As := [.ref (ad379 n), .ref ((sad g ad379 r377)), .int 4, .int 22]) (rest := []) (S1 := S390) (n1 := n392) (o := (fun _ => some (.int r391))) (P := (fun _ => True)) hC hl.1 hW hS hGs hA (c_L_wrong l g ad379 n378 K380 H.size F S376 n r377 ((4 : Int32)) ((22 : Int32)) g386 hPz375 r391 S390 n392 hz389) (va_cwS 4 hts gL_errors_L_wrong rfl rfl rfl (by decide +kernel) ⟨Nat.le_of_ble_eq_true rfl, Nat.le_of_ble_eq_true rfl⟩) rfl (by rw [g387] <;> rfl) (Nat.le_of_ble_eq_true rfl) dL_errors_97 ⟨(show 255 + 20 ≤ 648 by omega), (show 87307 + 148 ≤ 165707 by omega)⟩ (fun ad393 K394 H locs hag395 hPz389 hW hS => ?_)
      have g396 := hag395.s g382
      have g397 := hag395.se (g := g) g382 g383
      have g398 := hag395.s g384
      have g399 := hag395.se (g := g) g384 g385
      have g400 := hag395.t g386
      have g401 := hag395.e g386 g387
      have ag402 := (ag388).tr hag395
      refine W.widen (k := 275) (n := 87455) (by omega) (by omega) ?_
      refine W.eq (g2 := F0 m 100 ls [.int r391]) rfl ?_
      refine lv_if_eq (tgt := 190) hx hb dL_errors_100 (by decide) (fun c403 => ?_) (fun c403 => ?_)
      · replace hf := ifT c403 hf
        refine lv_iconst (v := 0) hx hb dL_errors_190 (by decide) ?_
        obtain ⟨e1, e2, e3⟩ := so3 hf
        subst e1
        subst e2
        subst e3
        refine W.widen (k := 648) (n := 165707) (by omega) (by omega) ?_
        exact W.zret (v := 0) hx hb hr rfl (fun t ht hWm => ⟨⟨ad393, K394, rfl, ag402, trivial, by rw [ht]; exact hW⟩, hS.F ht⟩) hS.2.2 dL_errors_191 hlk
      · replace hf := ifF c403 hf
        refine lv_aload_n hx hb dL_errors_103 rfl (lv_at hl 3 rfl) ?_
        refine x_new (ci := 10) (C := RJ4) (T := TJ4) (N := 4) hC hinJ4 tyJ4_ok hW hS hA ⟨rfl, by decide, by decide⟩ (by decide +kernel) w_5 w_6 w_7 (show 275 + 1 ≤ 648 by omega) (show 87455 + 4 ≤ 165707 by omega) dL_errors_104 (fun q404 ad405 K406 S407 H eS407 hag409 eqq404 ekq404 hW hS => ?_)
        replace hf := ltE hf S407 eS407
        obtain ⟨n408, en408⟩ : ∃ z, z = n392 + 1 := ⟨_, rfl⟩
        rw [← en408] at hag409 hW
        replace hf := ltE hf n408 en408
        have tq404 : n392 < n408 ∧ K406 n392 = 10 := ⟨by omega, ekq404⟩
        have g410 := hag409.s g396
        have g411 := hag409.se (g := g) g396 g397
        have g412 := hag409.s g398
        have g413 := hag409.se (g := g) g398 g399
        have g414 := hag409.t g400
        have g415 := hag409.e g400 g401
        have ag416 := (ag402).tr hag409
        refine W.widen (k := 276) (n := 87459) (by omega) (by omega) ?_
        refine lv_dup hx hb dL_errors_107 rfl ?_
        replace hf := obE hf
        obtain ⟨z417, hz417, hf⟩ := hf
        obtain ⟨S418, n420⟩ := z417
        replace hf := ltE (ltE hf S418 rfl) n420 rfl
        refine x_acallI (As := []) (rest := [.ref (q404), .ref (q153)]) (S1 := S418) (n1 := n420) (o := (fun _ => none)) (P := (fun _ => True)) hC hl.1 hW hS hGs hA (c_J4_init_da8c8 l g ad405 n408 K406 H.size F S407 n392 tq404 S418 n420 hz417) (cwI 0 hts gL_errors_J4_init_da8c8 rfl rfl rfl w_7 w_8 w_9 rfl (by decide +kernel) ⟨Nat.le_of_ble_eq_true rfl, Nat.le_of_ble_eq_true rfl⟩) rfl (by rw [eqq404] <;> rfl) (Nat.le_of_ble_eq_true rfl) dL_errors_108 ⟨(show 276 + 1 ≤ 648 by omega), (show 87459 + 32 ≤ 165707 by omega)⟩ (fun ad421 K422 H locs hag423 hPz417 hW hS => ?_)
        have g424 := hag423.s g410
        have g425 := hag423.se (g := g) g410 g411
        have g426 := hag423.s g412
        have g427 := hag423.se (g := g) g412 g413
        have g428 := hag423.t g414
        have g429 := hag423.e g414 g415
        have g430 := hag423.t tq404
        have g431 := hag423.e tq404 eqq404
        have ag432 := (ag416).tr hag423
        refine W.widen (k := 277) (n := 87491) (by omega) (by omega) ?_
        refine W.eq (g2 := F0 m 111 ls [.ref (q404), .ref (q153)]) rfl ?_
        refine lv_aload_n hx hb dL_errors_111 rfl (lv_at hl 2 rfl) ?_
        replace hf := obE hf
        obtain ⟨z433, hz433, hf⟩ := hf
        obtain ⟨r435, S434, n436⟩ := z433
        replace hf := ltE (ltE (ltE hf r435 rfl) S434 rfl) n436 rfl
        refine x_acallV (As := [.ref (sad g ad421 ((21 : Nat)))]) (rest := [.ref (q153)]) (S1 := S434) (n1 := n436) (o := (fun a => some (va_re a r435))) (P := (fun K9 => ∀ j, r435 = some j → j < n436 ∧ K9 j = 10)) hC hl.1 hW hS hGs hA g430 rfl (show vwCl[10]? = some (RJ4, TJ4, 4) ∧ ob 10 from ⟨rfl, by decide⟩) (c_J4_append_15ec4 l g ad421 n420 K422 H.size F S418 n392 ((21 : Nat)) g430 (tS_c (by decide)) r435 S434 n436 hz433) (cwV 1 hts gL_errors_J4_append_15ec4 rfl rfl rfl (by decide +kernel) ⟨Nat.le_of_ble_eq_true rfl, Nat.le_of_ble_eq_true rfl⟩) rfl (by rw [g431] <;> rfl) (Nat.le_of_ble_eq_true rfl) dL_errors_112 ⟨(show 277 + 1 ≤ 648 by omega), (show 87491 + 1024 ≤ 165707 by omega)⟩ (fun ad437 K438 H locs hag439 hPz433 hW hS => ?_)
        have g440 := hag439.s g424
        have g441 := hag439.se (g := g) g424 g425
        have g442 := hag439.s g426
        have g443 := hag439.se (g := g) g426 g427
        have g444 := hag439.t g428
        have g445 := hag439.e g428 g429
        have ag446 := (ag432).tr hag439
        refine W.widen (k := 278) (n := 88515) (by omega) (by omega) ?_
        replace hf := obE hf
        obtain ⟨j447, qj447, hf⟩ := hf
        have tj447 := hPz433 j447 qj447
        refine W.eq (g2 := F0 m 115 ls [.ref (ad437 j447), .ref (q153)]) (by rw [qj447]; rfl) ?_
        refine x_ldcM 27 (tx := "class days days 1;") hC hGM ⟨rfl, by decide⟩ dL_errors_115 ?_
        replace hf := obE hf
        obtain ⟨z448, hz448, hf⟩ := hf
        obtain ⟨r450, S449, n451⟩ := z448
        replace hf := ltE (ltE (ltE hf r450 rfl) S449 rfl) n451 rfl
        refine x_acallV (As := [.ref (sad g ad437 ((27 : Nat)))]) (rest := [.ref (q153)]) (S1 := S449) (n1 := n451) (o := (fun a => some (va_re a r450))) (P := (fun K9 => ∀ j, r450 = some j → j < n451 ∧ K9 j = 10)) hC hl.1 hW hS hGs hA tj447 rfl (show vwCl[10]? = some (RJ4, TJ4, 4) ∧ ob 10 from ⟨rfl, by decide⟩) (c_J4_append_15ec4 l g ad437 n436 K438 H.size F S434 j447 ((27 : Nat)) tj447 (tS_c (by decide)) r450 S449 n451 hz448) (cwV 1 hts gL_errors_J4_append_15ec4 rfl rfl rfl (by decide +kernel) ⟨Nat.le_of_ble_eq_true rfl, Nat.le_of_ble_eq_true rfl⟩) rfl rfl (Nat.le_of_ble_eq_true rfl) dL_errors_117 ⟨(show 278 + 1 ≤ 648 by omega), (show 88515 + 1024 ≤ 165707 by omega)⟩ (fun ad452 K453 H locs hag454 hPz448 hW hS => ?_)
        have g455 := hag454.s g440
        have g456 := hag454.se (g := g) g440 g441
        have g457 := hag454.s g442
        have g458 := hag454.se (g := g) g442 g443
        have g459 := hag454.t g444
        have g460 := hag454.e g444 g445
        have ag461 := (ag446).tr hag454
        refine W.widen (k := 279) (n := 89539) (by omega) (by omega) ?_
        replace hf := obE hf
        obtain ⟨j462, qj462, hf⟩ := hf
        have tj462 := hPz448 j462 qj462
        refine W.eq (g2 := F0 m 120 ls [.ref (ad452 j462), .ref (q153)]) (by rw [qj462]; rfl) ?_
        replace hf := obE hf
        obtain ⟨z463, hz463, hf⟩ := hf
        obtain ⟨r465, S464, n466⟩ := z463
        replace hf := ltE (ltE (ltE hf r465 rfl) S464 rfl) n466 rfl
        refine x_acallV (As := []) (rest := [.ref (q153)]) (S1 := S464) (n1 := n466) (o := (fun a => some (.ref (sad g a r465)))) (P := (fun K9 => tS 18 n466 K9 r465)) hC hl.1 hW hS hGs hA tj462 rfl (show vwCl[10]? = some (RJ4, TJ4, 4) ∧ ob 10 from ⟨rfl, by decide⟩) (c_J4_toString_0e30d l g ad452 n451 K453 H.size F S449 j462 tj462 r465 S464 n466 hz463) (cwV 0 hts gL_errors_J4_toString_0e30d rfl rfl rfl (by decide +kernel) ⟨Nat.le_of_ble_eq_true rfl, Nat.le_of_ble_eq_true rfl⟩) rfl rfl (Nat.le_of_ble_eq_true rfl) dL_errors_120 ⟨(show 279 + 2 ≤ 648 by omega), (show 89539 + 1028 ≤ 165707 by omega)⟩ (fun ad467 K468 H locs hag469 hPz463 hW hS => ?_)
        have g470 := hag469.s g455
        have g471 := hag469.se (g := g) g455 g456
        have g472 := hag469.s g457
        have g473 := hag469.se (g := g) g457 g458
        have g474 := hag469.t g459
        have g475 := hag469.e g459 g460
        have ag476 := (ag461).tr hag469
        refine W.widen (k := 281) (n := 90567) (by omega) (by omega) ?_
        refine W.eq (g2 := F0 m 123 ls [.ref ((sad g ad467 r465)), .ref (q153)]) rfl ?_
        refine lv_iconst (v := 1) hx hb dL_errors_123 (by decide) ?_
        refine lv_bipush (v := 28) hx hb dL_errors_124 (by decide) ?_
        replace hf := obE hf
        obtain ⟨z477, hz477, hf⟩ := hf
        obtain ⟨r479, S478, n480⟩ := z477
        replace hf := ltE (ltE (ltE hf r479 rfl) S478 rfl) n480 rfl
        refine x_acallS (As := [.ref (ad467 n), .ref ((sad g ad467 r465)), .int 1, .int 28]) (rest := []) (S1 := S478) (n1 := n480) (o := (fun _ => some (.int r479))) (P := (fun _ => True)) hC hl.1 hW hS hGs hA (c_L_wrong l g ad467 n466 K468 H.size F S464 n r465 ((1 : Int32)) ((28 : Int32)) g474 hPz463 r479 S478 n480 hz477) (va_cwS 4 hts gL_errors_L_wrong rfl rfl rfl (by decide +kernel) ⟨Nat.le_of_ble_eq_true rfl, Nat.le_of_ble_eq_true rfl⟩) rfl (by rw [g475] <;> rfl) (Nat.le_of_ble_eq_true rfl) dL_errors_126 ⟨(show 281 + 20 ≤ 648 by omega), (show 90567 + 148 ≤ 165707 by omega)⟩ (fun ad481 K482 H locs hag483 hPz477 hW hS => ?_)
        have g484 := hag483.s g470
        have g485 := hag483.se (g := g) g470 g471
        have g486 := hag483.s g472
        have g487 := hag483.se (g := g) g472 g473
        have g488 := hag483.t g474
        have g489 := hag483.e g474 g475
        have ag490 := (ag476).tr hag483
        refine W.widen (k := 301) (n := 90715) (by omega) (by omega) ?_
        refine W.eq (g2 := F0 m 129 ls [.int r479]) rfl ?_
        refine lv_if_eq (tgt := 190) hx hb dL_errors_129 (by decide) (fun c491 => ?_) (fun c491 => ?_)
        · replace hf := ifT c491 hf
          refine lv_iconst (v := 0) hx hb dL_errors_190 (by decide) ?_
          obtain ⟨e1, e2, e3⟩ := so3 hf
          subst e1
          subst e2
          subst e3
          refine W.widen (k := 648) (n := 165707) (by omega) (by omega) ?_
          exact W.zret (v := 0) hx hb hr rfl (fun t ht hWm => ⟨⟨ad481, K482, rfl, ag490, trivial, by rw [ht]; exact hW⟩, hS.F ht⟩) hS.2.2 dL_errors_191 hlk
        · replace hf := ifF c491 hf
          refine lv_aload_n hx hb dL_errors_132 rfl (lv_at hl 3 rfl) ?_
          refine x_new (ci := 10) (C := RJ4) (T := TJ4) (N := 4) hC hinJ4 tyJ4_ok hW hS hA ⟨rfl, by decide, by decide⟩ (by decide +kernel) w_5 w_6 w_7 (show 301 + 1 ≤ 648 by omega) (show 90715 + 4 ≤ 165707 by omega) dL_errors_133 (fun q492 ad493 K494 S495 H eS495 hag497 eqq492 ekq492 hW hS => ?_)
          replace hf := ltE hf S495 eS495
          obtain ⟨n496, en496⟩ : ∃ z, z = n480 + 1 := ⟨_, rfl⟩
          rw [← en496] at hag497 hW
          replace hf := ltE hf n496 en496
          have tq492 : n480 < n496 ∧ K494 n480 = 10 := ⟨by omega, ekq492⟩
          have g498 := hag497.s g484
          have g499 := hag497.se (g := g) g484 g485
          have g500 := hag497.s g486
          have g501 := hag497.se (g := g) g486 g487
          have g502 := hag497.t g488
          have g503 := hag497.e g488 g489
          have ag504 := (ag490).tr hag497
          refine W.widen (k := 302) (n := 90719) (by omega) (by omega) ?_
          refine lv_dup hx hb dL_errors_136 rfl ?_
          replace hf := obE hf
          obtain ⟨z505, hz505, hf⟩ := hf
          obtain ⟨S506, n508⟩ := z505
          replace hf := ltE (ltE hf S506 rfl) n508 rfl
          refine x_acallI (As := []) (rest := [.ref (q492), .ref (q153)]) (S1 := S506) (n1 := n508) (o := (fun _ => none)) (P := (fun _ => True)) hC hl.1 hW hS hGs hA (c_J4_init_da8c8 l g ad493 n496 K494 H.size F S495 n480 tq492 S506 n508 hz505) (cwI 0 hts gL_errors_J4_init_da8c8 rfl rfl rfl w_7 w_8 w_9 rfl (by decide +kernel) ⟨Nat.le_of_ble_eq_true rfl, Nat.le_of_ble_eq_true rfl⟩) rfl (by rw [eqq492] <;> rfl) (Nat.le_of_ble_eq_true rfl) dL_errors_137 ⟨(show 302 + 1 ≤ 648 by omega), (show 90719 + 32 ≤ 165707 by omega)⟩ (fun ad509 K510 H locs hag511 hPz505 hW hS => ?_)
          have g512 := hag511.s g498
          have g513 := hag511.se (g := g) g498 g499
          have g514 := hag511.s g500
          have g515 := hag511.se (g := g) g500 g501
          have g516 := hag511.t g502
          have g517 := hag511.e g502 g503
          have g518 := hag511.t tq492
          have g519 := hag511.e tq492 eqq492
          have ag520 := (ag504).tr hag511
          refine W.widen (k := 303) (n := 90751) (by omega) (by omega) ?_
          refine W.eq (g2 := F0 m 140 ls [.ref (q492), .ref (q153)]) rfl ?_
          refine lv_aload_n hx hb dL_errors_140 rfl (lv_at hl 2 rfl) ?_
          replace hf := obE hf
          obtain ⟨z521, hz521, hf⟩ := hf
          obtain ⟨r523, S522, n524⟩ := z521
          replace hf := ltE (ltE (ltE hf r523 rfl) S522 rfl) n524 rfl
          refine x_acallV (As := [.ref (sad g ad509 ((21 : Nat)))]) (rest := [.ref (q153)]) (S1 := S522) (n1 := n524) (o := (fun a => some (va_re a r523))) (P := (fun K9 => ∀ j, r523 = some j → j < n524 ∧ K9 j = 10)) hC hl.1 hW hS hGs hA g518 rfl (show vwCl[10]? = some (RJ4, TJ4, 4) ∧ ob 10 from ⟨rfl, by decide⟩) (c_J4_append_15ec4 l g ad509 n508 K510 H.size F S506 n480 ((21 : Nat)) g518 (tS_c (by decide)) r523 S522 n524 hz521) (cwV 1 hts gL_errors_J4_append_15ec4 rfl rfl rfl (by decide +kernel) ⟨Nat.le_of_ble_eq_true rfl, Nat.le_of_ble_eq_true rfl⟩) rfl (by rw [g519] <;> rfl) (Nat.le_of_ble_eq_true rfl) dL_errors_141 ⟨(show 303 + 1 ≤ 648 by omega), (show 90751 + 1024 ≤ 165707 by omega)⟩ (fun ad525 K526 H locs hag527 hPz521 hW hS => ?_)
          have g528 := hag527.s g512
          have g529 := hag527.se (g := g) g512 g513
          have g530 := hag527.s g514
          have g531 := hag527.se (g := g) g514 g515
          have g532 := hag527.t g516
          have g533 := hag527.e g516 g517
          have ag534 := (ag520).tr hag527
          refine W.widen (k := 304) (n := 91775) (by omega) (by omega) ?_
          replace hf := obE hf
          obtain ⟨j535, qj535, hf⟩ := hf
          have tj535 := hPz521 j535 qj535
          refine W.eq (g2 := F0 m 144 ls [.ref (ad525 j535), .ref (q153)]) (by rw [qj535]; rfl) ?_
          refine x_ldcM 28 (tx := "class a days 0;") hC hGM ⟨rfl, by decide⟩ dL_errors_144 ?_
          replace hf := obE hf
          obtain ⟨z536, hz536, hf⟩ := hf
          obtain ⟨r538, S537, n539⟩ := z536
          replace hf := ltE (ltE (ltE hf r538 rfl) S537 rfl) n539 rfl
          refine x_acallV (As := [.ref (sad g ad525 ((28 : Nat)))]) (rest := [.ref (q153)]) (S1 := S537) (n1 := n539) (o := (fun a => some (va_re a r538))) (P := (fun K9 => ∀ j, r538 = some j → j < n539 ∧ K9 j = 10)) hC hl.1 hW hS hGs hA tj535 rfl (show vwCl[10]? = some (RJ4, TJ4, 4) ∧ ob 10 from ⟨rfl, by decide⟩) (c_J4_append_15ec4 l g ad525 n524 K526 H.size F S522 j535 ((28 : Nat)) tj535 (tS_c (by decide)) r538 S537 n539 hz536) (cwV 1 hts gL_errors_J4_append_15ec4 rfl rfl rfl (by decide +kernel) ⟨Nat.le_of_ble_eq_true rfl, Nat.le_of_ble_eq_true rfl⟩) rfl rfl (Nat.le_of_ble_eq_true rfl) dL_errors_146 ⟨(show 304 + 1 ≤ 648 by omega), (show 91775 + 1024 ≤ 165707 by omega)⟩ (fun ad540 K541 H locs hag542 hPz536 hW hS => ?_)
          have g543 := hag542.s g528
          have g544 := hag542.se (g := g) g528 g529
          have g545 := hag542.s g530
          have g546 := hag542.se (g := g) g530 g531
          have g547 := hag542.t g532
          have g548 := hag542.e g532 g533
          have ag549 := (ag534).tr hag542
          refine W.widen (k := 305) (n := 92799) (by omega) (by omega) ?_
          replace hf := obE hf
          obtain ⟨j550, qj550, hf⟩ := hf
          have tj550 := hPz536 j550 qj550
          refine W.eq (g2 := F0 m 149 ls [.ref (ad540 j550), .ref (q153)]) (by rw [qj550]; rfl) ?_
          replace hf := obE hf
          obtain ⟨z551, hz551, hf⟩ := hf
          obtain ⟨r553, S552, n554⟩ := z551
          replace hf := ltE (ltE (ltE hf r553 rfl) S552 rfl) n554 rfl
          refine x_acallV (As := []) (rest := [.ref (q153)]) (S1 := S552) (n1 := n554) (o := (fun a => some (.ref (sad g a r553)))) (P := (fun K9 => tS 18 n554 K9 r553)) hC hl.1 hW hS hGs hA tj550 rfl (show vwCl[10]? = some (RJ4, TJ4, 4) ∧ ob 10 from ⟨rfl, by decide⟩) (c_J4_toString_0e30d l g ad540 n539 K541 H.size F S537 j550 tj550 r553 S552 n554 hz551) (cwV 0 hts gL_errors_J4_toString_0e30d rfl rfl rfl (by decide +kernel) ⟨Nat.le_of_ble_eq_true rfl, Nat.le_of_ble_eq_true rfl⟩) rfl rfl (Nat.le_of_ble_eq_true rfl) dL_errors_149 ⟨(show 305 + 2 ≤ 648 by omega), (show 92799 + 1028 ≤ 165707 by omega)⟩ (fun ad555 K556 H locs hag557 hPz551 hW hS => ?_)
          have g558 := hag557.s g543
          have g559 := hag557.se (g := g) g543 g544
          have g560 := hag557.s g545
          have g561 := hag557.se (g := g) g545 g546
          have g562 := hag557.t g547
          have g563 := hag557.e g547 g548
          have ag564 := (ag549).tr hag557
          refine W.widen (k := 307) (n := 93827) (by omega) (by omega) ?_
          refine W.eq (g2 := F0 m 152 ls [.ref ((sad g ad555 r553)), .ref (q153)]) rfl ?_
          refine lv_iconst (v := 2) hx hb dL_errors_152 (by decide) ?_
          refine lv_bipush (v := 35) hx hb dL_errors_153 (by decide) ?_
          replace hf := obE hf
          obtain ⟨z565, hz565, hf⟩ := hf
          obtain ⟨r567, S566, n568⟩ := z565
          replace hf := ltE (ltE (ltE hf r567 rfl) S566 rfl) n568 rfl
          refine x_acallS (As := [.ref (ad555 n), .ref ((sad g ad555 r553)), .int 2, .int 35]) (rest := []) (S1 := S566) (n1 := n568) (o := (fun _ => some (.int r567))) (P := (fun _ => True)) hC hl.1 hW hS hGs hA (c_L_wrong l g ad555 n554 K556 H.size F S552 n r553 ((2 : Int32)) ((35 : Int32)) g562 hPz551 r567 S566 n568 hz565) (va_cwS 4 hts gL_errors_L_wrong rfl rfl rfl (by decide +kernel) ⟨Nat.le_of_ble_eq_true rfl, Nat.le_of_ble_eq_true rfl⟩) rfl (by rw [g563] <;> rfl) (Nat.le_of_ble_eq_true rfl) dL_errors_155 ⟨(show 307 + 20 ≤ 648 by omega), (show 93827 + 148 ≤ 165707 by omega)⟩ (fun ad569 K570 H locs hag571 hPz565 hW hS => ?_)
          have g572 := hag571.s g558
          have g573 := hag571.se (g := g) g558 g559
          have g574 := hag571.s g560
          have g575 := hag571.se (g := g) g560 g561
          have g576 := hag571.t g562
          have g577 := hag571.e g562 g563
          have ag578 := (ag564).tr hag571
          refine W.widen (k := 327) (n := 93975) (by omega) (by omega) ?_
          refine W.eq (g2 := F0 m 158 ls [.int r567]) rfl ?_
          refine lv_if_eq (tgt := 190) hx hb dL_errors_158 (by decide) (fun c579 => ?_) (fun c579 => ?_)
          · replace hf := ifT c579 hf
            refine lv_iconst (v := 0) hx hb dL_errors_190 (by decide) ?_
            obtain ⟨e1, e2, e3⟩ := so3 hf
            subst e1
            subst e2
            subst e3
            refine W.widen (k := 648) (n := 165707) (by omega) (by omega) ?_
            exact W.zret (v := 0) hx hb hr rfl (fun t ht hWm => ⟨⟨ad569, K570, rfl, ag578, trivial, by rw [ht]; exact hW⟩, hS.F ht⟩) hS.2.2 dL_errors_191 hlk
          · replace hf := ifF c579 hf
            refine lv_aload_n hx hb dL_errors_161 rfl (lv_at hl 3 rfl) ?_
            refine x_new (ci := 10) (C := RJ4) (T := TJ4) (N := 4) hC hinJ4 tyJ4_ok hW hS hA ⟨rfl, by decide, by decide⟩ (by decide +kernel) w_5 w_6 w_7 (show 327 + 1 ≤ 648 by omega) (show 93975 + 4 ≤ 165707 by omega) dL_errors_162 (fun q580 ad581 K582 S583 H eS583 hag585 eqq580 ekq580 hW hS => ?_)
            replace hf := ltE hf S583 eS583
            obtain ⟨n584, en584⟩ : ∃ z, z = n568 + 1 := ⟨_, rfl⟩
            rw [← en584] at hag585 hW
            replace hf := ltE hf n584 en584
            have tq580 : n568 < n584 ∧ K582 n568 = 10 := ⟨by omega, ekq580⟩
            have g586 := hag585.s g572
            have g587 := hag585.se (g := g) g572 g573
            have g588 := hag585.s g574
            have g589 := hag585.se (g := g) g574 g575
            have g590 := hag585.t g576
            have g591 := hag585.e g576 g577
            have ag592 := (ag578).tr hag585
            refine W.widen (k := 328) (n := 93979) (by omega) (by omega) ?_
            refine lv_dup hx hb dL_errors_165 rfl ?_
            replace hf := obE hf
            obtain ⟨z593, hz593, hf⟩ := hf
            obtain ⟨S594, n596⟩ := z593
            replace hf := ltE (ltE hf S594 rfl) n596 rfl
            refine x_acallI (As := []) (rest := [.ref (q580), .ref (q153)]) (S1 := S594) (n1 := n596) (o := (fun _ => none)) (P := (fun _ => True)) hC hl.1 hW hS hGs hA (c_J4_init_da8c8 l g ad581 n584 K582 H.size F S583 n568 tq580 S594 n596 hz593) (cwI 0 hts gL_errors_J4_init_da8c8 rfl rfl rfl w_7 w_8 w_9 rfl (by decide +kernel) ⟨Nat.le_of_ble_eq_true rfl, Nat.le_of_ble_eq_true rfl⟩) rfl (by rw [eqq580] <;> rfl) (Nat.le_of_ble_eq_true rfl) dL_errors_166 ⟨(show 328 + 1 ≤ 648 by omega), (show 93979 + 32 ≤ 165707 by omega)⟩ (fun ad597 K598 H locs hag599 hPz593 hW hS => ?_)
            have g600 := hag599.s g586
            have g601 := hag599.se (g := g) g586 g587
            have g602 := hag599.s g588
            have g603 := hag599.se (g := g) g588 g589
            have g604 := hag599.t g590
            have g605 := hag599.e g590 g591
            have g606 := hag599.t tq580
            have g607 := hag599.e tq580 eqq580
            have ag608 := (ag592).tr hag599
            refine W.widen (k := 329) (n := 94011) (by omega) (by omega) ?_
            refine W.eq (g2 := F0 m 169 ls [.ref (q580), .ref (q153)]) rfl ?_
            refine lv_aload_n hx hb dL_errors_169 rfl (lv_at hl 1 rfl) ?_
            replace hf := obE hf
            obtain ⟨z609, hz609, hf⟩ := hf
            obtain ⟨r611, S610, n612⟩ := z609
            replace hf := ltE (ltE (ltE hf r611 rfl) S610 rfl) n612 rfl
            refine x_acallV (As := [.ref (sad g ad597 r215)]) (rest := [.ref (q153)]) (S1 := S610) (n1 := n612) (o := (fun a => some (va_re a r611))) (P := (fun K9 => ∀ j, r611 = some j → j < n612 ∧ K9 j = 10)) hC hl.1 hW hS hGs hA g606 rfl (show vwCl[10]? = some (RJ4, TJ4, 4) ∧ ob 10 from ⟨rfl, by decide⟩) (c_J4_append_15ec4 l g ad597 n596 K598 H.size F S594 n568 r215 g606 g602 r611 S610 n612 hz609) (cwV 1 hts gL_errors_J4_append_15ec4 rfl rfl rfl (by decide +kernel) ⟨Nat.le_of_ble_eq_true rfl, Nat.le_of_ble_eq_true rfl⟩) rfl (by rw [g607, g603] <;> rfl) (Nat.le_of_ble_eq_true rfl) dL_errors_170 ⟨(show 329 + 1 ≤ 648 by omega), (show 94011 + 1024 ≤ 165707 by omega)⟩ (fun ad613 K614 H locs hag615 hPz609 hW hS => ?_)
            have g616 := hag615.s g600
            have g617 := hag615.se (g := g) g600 g601
            have g618 := hag615.s g602
            have g619 := hag615.se (g := g) g602 g603
            have g620 := hag615.t g604
            have g621 := hag615.e g604 g605
            have ag622 := (ag608).tr hag615
            refine W.widen (k := 330) (n := 95035) (by omega) (by omega) ?_
            replace hf := obE hf
            obtain ⟨j623, qj623, hf⟩ := hf
            have tj623 := hPz609 j623 qj623
            refine W.eq (g2 := F0 m 173 ls [.ref (ad613 j623), .ref (q153)]) (by rw [qj623]; rfl) ?_
            refine x_ldcM 29 (tx := "class a days 1;") hC hGM ⟨rfl, by decide⟩ dL_errors_173 ?_
            replace hf := obE hf
            obtain ⟨z624, hz624, hf⟩ := hf
            obtain ⟨r626, S625, n627⟩ := z624
            replace hf := ltE (ltE (ltE hf r626 rfl) S625 rfl) n627 rfl
            refine x_acallV (As := [.ref (sad g ad613 ((29 : Nat)))]) (rest := [.ref (q153)]) (S1 := S625) (n1 := n627) (o := (fun a => some (va_re a r626))) (P := (fun K9 => ∀ j, r626 = some j → j < n627 ∧ K9 j = 10)) hC hl.1 hW hS hGs hA tj623 rfl (show vwCl[10]? = some (RJ4, TJ4, 4) ∧ ob 10 from ⟨rfl, by decide⟩) (c_J4_append_15ec4 l g ad613 n612 K614 H.size F S610 j623 ((29 : Nat)) tj623 (tS_c (by decide)) r626 S625 n627 hz624) (cwV 1 hts gL_errors_J4_append_15ec4 rfl rfl rfl (by decide +kernel) ⟨Nat.le_of_ble_eq_true rfl, Nat.le_of_ble_eq_true rfl⟩) rfl rfl (Nat.le_of_ble_eq_true rfl) dL_errors_175 ⟨(show 330 + 1 ≤ 648 by omega), (show 95035 + 1024 ≤ 165707 by omega)⟩ (fun ad628 K629 H locs hag630 hPz624 hW hS => ?_)
            have g631 := hag630.s g616
            have g632 := hag630.se (g := g) g616 g617
            have g633 := hag630.s g618
            have g634 := hag630.se (g := g) g618 g619
            have g635 := hag630.t g620
            have g636 := hag630.e g620 g621
            have ag637 := (ag622).tr hag630
            refine W.widen (k := 331) (n := 96059) (by omega) (by omega) ?_
            replace hf := obE hf
            obtain ⟨j638, qj638, hf⟩ := hf
            have tj638 := hPz624 j638 qj638
            refine W.eq (g2 := F0 m 178 ls [.ref (ad628 j638), .ref (q153)]) (by rw [qj638]; rfl) ?_
            replace hf := obE hf
            obtain ⟨z639, hz639, hf⟩ := hf
            obtain ⟨r641, S640, n642⟩ := z639
            replace hf := ltE (ltE (ltE hf r641 rfl) S640 rfl) n642 rfl
            refine x_acallV (As := []) (rest := [.ref (q153)]) (S1 := S640) (n1 := n642) (o := (fun a => some (.ref (sad g a r641)))) (P := (fun K9 => tS 18 n642 K9 r641)) hC hl.1 hW hS hGs hA tj638 rfl (show vwCl[10]? = some (RJ4, TJ4, 4) ∧ ob 10 from ⟨rfl, by decide⟩) (c_J4_toString_0e30d l g ad628 n627 K629 H.size F S625 j638 tj638 r641 S640 n642 hz639) (cwV 0 hts gL_errors_J4_toString_0e30d rfl rfl rfl (by decide +kernel) ⟨Nat.le_of_ble_eq_true rfl, Nat.le_of_ble_eq_true rfl⟩) rfl rfl (Nat.le_of_ble_eq_true rfl) dL_errors_178 ⟨(show 331 + 2 ≤ 648 by omega), (show 96059 + 1028 ≤ 165707 by omega)⟩ (fun ad643 K644 H locs hag645 hPz639 hW hS => ?_)
            have g646 := hag645.s g631
            have g647 := hag645.se (g := g) g631 g632
            have g648 := hag645.s g633
            have g649 := hag645.se (g := g) g633 g634
            have g650 := hag645.t g635
            have g651 := hag645.e g635 g636
            have ag652 := (ag637).tr hag645
            refine W.widen (k := 333) (n := 97087) (by omega) (by omega) ?_
            refine W.eq (g2 := F0 m 181 ls [.ref ((sad g ad643 r641)), .ref (q153)]) rfl ?_
            refine lv_iconst (v := 3) hx hb dL_errors_181 (by decide) ?_
            refine lv_bipush (v := 43) hx hb dL_errors_182 (by decide) ?_
            replace hf := obE hf
            obtain ⟨z653, hz653, hf⟩ := hf
            obtain ⟨r655, S654, n656⟩ := z653
            replace hf := ltE (ltE (ltE hf r655 rfl) S654 rfl) n656 rfl
            refine x_acallS (As := [.ref (ad643 n), .ref ((sad g ad643 r641)), .int 3, .int 43]) (rest := []) (S1 := S654) (n1 := n656) (o := (fun _ => some (.int r655))) (P := (fun _ => True)) hC hl.1 hW hS hGs hA (c_L_wrong l g ad643 n642 K644 H.size F S640 n r641 ((3 : Int32)) ((43 : Int32)) g650 hPz639 r655 S654 n656 hz653) (va_cwS 4 hts gL_errors_L_wrong rfl rfl rfl (by decide +kernel) ⟨Nat.le_of_ble_eq_true rfl, Nat.le_of_ble_eq_true rfl⟩) rfl (by rw [g651] <;> rfl) (Nat.le_of_ble_eq_true rfl) dL_errors_184 ⟨(show 333 + 20 ≤ 648 by omega), (show 97087 + 148 ≤ 165707 by omega)⟩ (fun ad657 K658 H locs hag659 hPz653 hW hS => ?_)
            have g660 := hag659.s g646
            have g661 := hag659.se (g := g) g646 g647
            have g662 := hag659.s g648
            have g663 := hag659.se (g := g) g648 g649
            have g664 := hag659.t g650
            have g665 := hag659.e g650 g651
            have ag666 := (ag652).tr hag659
            refine W.widen (k := 353) (n := 97235) (by omega) (by omega) ?_
            refine W.eq (g2 := F0 m 187 ls [.int r655]) rfl ?_
            refine lv_if_ne (tgt := 192) hx hb dL_errors_187 (by decide) (fun c667 => ?_) (fun c667 => ?_)
            · replace hf := ifT c667 hf
              refine lv_aload_n hx hb dL_errors_192 rfl (lv_at hl 3 rfl) ?_
              refine x_new (ci := 10) (C := RJ4) (T := TJ4) (N := 4) hC hinJ4 tyJ4_ok hW hS hA ⟨rfl, by decide, by decide⟩ (by decide +kernel) w_5 w_6 w_7 (show 353 + 1 ≤ 648 by omega) (show 97235 + 4 ≤ 165707 by omega) dL_errors_193 (fun q668 ad669 K670 S671 H eS671 hag673 eqq668 ekq668 hW hS => ?_)
              replace hf := ltE hf S671 eS671
              obtain ⟨n672, en672⟩ : ∃ z, z = n656 + 1 := ⟨_, rfl⟩
              rw [← en672] at hag673 hW
              replace hf := ltE hf n672 en672
              have tq668 : n656 < n672 ∧ K670 n656 = 10 := ⟨by omega, ekq668⟩
              have g674 := hag673.s g660
              have g675 := hag673.se (g := g) g660 g661
              have g676 := hag673.s g662
              have g677 := hag673.se (g := g) g662 g663
              have g678 := hag673.t g664
              have g679 := hag673.e g664 g665
              have ag680 := (ag666).tr hag673
              refine W.widen (k := 354) (n := 97239) (by omega) (by omega) ?_
              refine lv_dup hx hb dL_errors_196 rfl ?_
              replace hf := obE hf
              obtain ⟨z681, hz681, hf⟩ := hf
              obtain ⟨S682, n684⟩ := z681
              replace hf := ltE (ltE hf S682 rfl) n684 rfl
              refine x_acallI (As := []) (rest := [.ref (q668), .ref (q153)]) (S1 := S682) (n1 := n684) (o := (fun _ => none)) (P := (fun _ => True)) hC hl.1 hW hS hGs hA (c_J4_init_da8c8 l g ad669 n672 K670 H.size F S671 n656 tq668 S682 n684 hz681) (cwI 0 hts gL_errors_J4_init_da8c8 rfl rfl rfl w_7 w_8 w_9 rfl (by decide +kernel) ⟨Nat.le_of_ble_eq_true rfl, Nat.le_of_ble_eq_true rfl⟩) rfl (by rw [eqq668] <;> rfl) (Nat.le_of_ble_eq_true rfl) dL_errors_197 ⟨(show 354 + 1 ≤ 648 by omega), (show 97239 + 32 ≤ 165707 by omega)⟩ (fun ad685 K686 H locs hag687 hPz681 hW hS => ?_)
              have g688 := hag687.s g674
              have g689 := hag687.se (g := g) g674 g675
              have g690 := hag687.s g676
              have g691 := hag687.se (g := g) g676 g677
              have g692 := hag687.t g678
              have g693 := hag687.e g678 g679
              have g694 := hag687.t tq668
              have g695 := hag687.e tq668 eqq668
              have ag696 := (ag680).tr hag687
              refine W.widen (k := 355) (n := 97271) (by omega) (by omega) ?_
              refine W.eq (g2 := F0 m 200 ls [.ref (q668), .ref (q153)]) rfl ?_
              refine lv_aload_n hx hb dL_errors_200 rfl (lv_at hl 1 rfl) ?_
              replace hf := obE hf
              obtain ⟨z697, hz697, hf⟩ := hf
              obtain ⟨r699, S698, n700⟩ := z697
              replace hf := ltE (ltE (ltE hf r699 rfl) S698 rfl) n700 rfl
              refine x_acallV (As := [.ref (sad g ad685 r215)]) (rest := [.ref (q153)]) (S1 := S698) (n1 := n700) (o := (fun a => some (va_re a r699))) (P := (fun K9 => ∀ j, r699 = some j → j < n700 ∧ K9 j = 10)) hC hl.1 hW hS hGs hA g694 rfl (show vwCl[10]? = some (RJ4, TJ4, 4) ∧ ob 10 from ⟨rfl, by decide⟩) (c_J4_append_15ec4 l g ad685 n684 K686 H.size F S682 n656 r215 g694 g690 r699 S698 n700 hz697) (cwV 1 hts gL_errors_J4_append_15ec4 rfl rfl rfl (by decide +kernel) ⟨Nat.le_of_ble_eq_true rfl, Nat.le_of_ble_eq_true rfl⟩) rfl (by rw [g695, g691] <;> rfl) (Nat.le_of_ble_eq_true rfl) dL_errors_201 ⟨(show 355 + 1 ≤ 648 by omega), (show 97271 + 1024 ≤ 165707 by omega)⟩ (fun ad701 K702 H locs hag703 hPz697 hW hS => ?_)
              have g704 := hag703.s g688
              have g705 := hag703.se (g := g) g688 g689
              have g706 := hag703.s g690
              have g707 := hag703.se (g := g) g690 g691
              have g708 := hag703.t g692
              have g709 := hag703.e g692 g693
              have ag710 := (ag696).tr hag703
              refine W.widen (k := 356) (n := 98295) (by omega) (by omega) ?_
              replace hf := obE hf
              obtain ⟨j711, qj711, hf⟩ := hf
              have tj711 := hPz697 j711 qj711
              refine W.eq (g2 := F0 m 204 ls [.ref (ad701 j711), .ref (q153)]) (by rw [qj711]; rfl) ?_
              refine x_ldcM 30 (tx := "class b days 1 then b;") hC hGM ⟨rfl, by decide⟩ dL_errors_204 ?_
              replace hf := obE hf
              obtain ⟨z712, hz712, hf⟩ := hf
              obtain ⟨r714, S713, n715⟩ := z712
              replace hf := ltE (ltE (ltE hf r714 rfl) S713 rfl) n715 rfl
              refine x_acallV (As := [.ref (sad g ad701 ((30 : Nat)))]) (rest := [.ref (q153)]) (S1 := S713) (n1 := n715) (o := (fun a => some (va_re a r714))) (P := (fun K9 => ∀ j, r714 = some j → j < n715 ∧ K9 j = 10)) hC hl.1 hW hS hGs hA tj711 rfl (show vwCl[10]? = some (RJ4, TJ4, 4) ∧ ob 10 from ⟨rfl, by decide⟩) (c_J4_append_15ec4 l g ad701 n700 K702 H.size F S698 j711 ((30 : Nat)) tj711 (tS_c (by decide)) r714 S713 n715 hz712) (cwV 1 hts gL_errors_J4_append_15ec4 rfl rfl rfl (by decide +kernel) ⟨Nat.le_of_ble_eq_true rfl, Nat.le_of_ble_eq_true rfl⟩) rfl rfl (Nat.le_of_ble_eq_true rfl) dL_errors_206 ⟨(show 356 + 1 ≤ 648 by omega), (show 98295 + 1024 ≤ 165707 by omega)⟩ (fun ad716 K717 H locs hag718 hPz712 hW hS => ?_)
              have g719 := hag718.s g704
              have g720 := hag718.se (g := g) g704 g705
              have g721 := hag718.s g706
              have g722 := hag718.se (g := g) g706 g707
              have g723 := hag718.t g708
              have g724 := hag718.e g708 g709
              have ag725 := (ag710).tr hag718
              refine W.widen (k := 357) (n := 99319) (by omega) (by omega) ?_
              replace hf := obE hf
              obtain ⟨j726, qj726, hf⟩ := hf
              have tj726 := hPz712 j726 qj726
              refine W.eq (g2 := F0 m 209 ls [.ref (ad716 j726), .ref (q153)]) (by rw [qj726]; rfl) ?_
              replace hf := obE hf
              obtain ⟨z727, hz727, hf⟩ := hf
              obtain ⟨r729, S728, n730⟩ := z727
              replace hf := ltE (ltE (ltE hf r729 rfl) S728 rfl) n730 rfl
              refine x_acallV (As := []) (rest := [.ref (q153)]) (S1 := S728) (n1 := n730) (o := (fun a => some (.ref (sad g a r729)))) (P := (fun K9 => tS 18 n730 K9 r729)) hC hl.1 hW hS hGs hA tj726 rfl (show vwCl[10]? = some (RJ4, TJ4, 4) ∧ ob 10 from ⟨rfl, by decide⟩) (c_J4_toString_0e30d l g ad716 n715 K717 H.size F S713 j726 tj726 r729 S728 n730 hz727) (cwV 0 hts gL_errors_J4_toString_0e30d rfl rfl rfl (by decide +kernel) ⟨Nat.le_of_ble_eq_true rfl, Nat.le_of_ble_eq_true rfl⟩) rfl rfl (Nat.le_of_ble_eq_true rfl) dL_errors_209 ⟨(show 357 + 2 ≤ 648 by omega), (show 99319 + 1028 ≤ 165707 by omega)⟩ (fun ad731 K732 H locs hag733 hPz727 hW hS => ?_)
              have g734 := hag733.s g719
              have g735 := hag733.se (g := g) g719 g720
              have g736 := hag733.s g721
              have g737 := hag733.se (g := g) g721 g722
              have g738 := hag733.t g723
              have g739 := hag733.e g723 g724
              have ag740 := (ag725).tr hag733
              refine W.widen (k := 359) (n := 100347) (by omega) (by omega) ?_
              refine W.eq (g2 := F0 m 212 ls [.ref ((sad g ad731 r729)), .ref (q153)]) rfl ?_
              refine lv_iconst (v := 3) hx hb dL_errors_212 (by decide) ?_
              refine lv_bipush (v := 57) hx hb dL_errors_213 (by decide) ?_
              replace hf := obE hf
              obtain ⟨z741, hz741, hf⟩ := hf
              obtain ⟨r743, S742, n744⟩ := z741
              replace hf := ltE (ltE (ltE hf r743 rfl) S742 rfl) n744 rfl
              refine x_acallS (As := [.ref (ad731 n), .ref ((sad g ad731 r729)), .int 3, .int 57]) (rest := []) (S1 := S742) (n1 := n744) (o := (fun _ => some (.int r743))) (P := (fun _ => True)) hC hl.1 hW hS hGs hA (c_L_wrong l g ad731 n730 K732 H.size F S728 n r729 ((3 : Int32)) ((57 : Int32)) g738 hPz727 r743 S742 n744 hz741) (va_cwS 4 hts gL_errors_L_wrong rfl rfl rfl (by decide +kernel) ⟨Nat.le_of_ble_eq_true rfl, Nat.le_of_ble_eq_true rfl⟩) rfl (by rw [g739] <;> rfl) (Nat.le_of_ble_eq_true rfl) dL_errors_215 ⟨(show 359 + 20 ≤ 648 by omega), (show 100347 + 148 ≤ 165707 by omega)⟩ (fun ad745 K746 H locs hag747 hPz741 hW hS => ?_)
              have g748 := hag747.s g734
              have g749 := hag747.se (g := g) g734 g735
              have g750 := hag747.s g736
              have g751 := hag747.se (g := g) g736 g737
              have g752 := hag747.t g738
              have g753 := hag747.e g738 g739
              have ag754 := (ag740).tr hag747
              refine W.widen (k := 379) (n := 100495) (by omega) (by omega) ?_
              refine W.eq (g2 := F0 m 218 ls [.int r743]) rfl ?_
              refine lv_if_eq (tgt := 366) hx hb dL_errors_218 (by decide) (fun c755 => ?_) (fun c755 => ?_)
              · replace hf := ifT c755 hf
                refine lv_iconst (v := 0) hx hb dL_errors_366 (by decide) ?_
                obtain ⟨e1, e2, e3⟩ := so3 hf
                subst e1
                subst e2
                subst e3
                refine W.widen (k := 648) (n := 165707) (by omega) (by omega) ?_
                exact W.zret (v := 0) hx hb hr rfl (fun t ht hWm => ⟨⟨ad745, K746, rfl, ag754, trivial, by rw [ht]; exact hW⟩, hS.F ht⟩) hS.2.2 dL_errors_367 hlk
              · replace hf := ifF c755 hf
                refine lv_aload_n hx hb dL_errors_221 rfl (lv_at hl 3 rfl) ?_
                refine x_new (ci := 10) (C := RJ4) (T := TJ4) (N := 4) hC hinJ4 tyJ4_ok hW hS hA ⟨rfl, by decide, by decide⟩ (by decide +kernel) w_5 w_6 w_7 (show 379 + 1 ≤ 648 by omega) (show 100495 + 4 ≤ 165707 by omega) dL_errors_222 (fun q756 ad757 K758 S759 H eS759 hag761 eqq756 ekq756 hW hS => ?_)
                replace hf := ltE hf S759 eS759
                obtain ⟨n760, en760⟩ : ∃ z, z = n744 + 1 := ⟨_, rfl⟩
                rw [← en760] at hag761 hW
                replace hf := ltE hf n760 en760
                have tq756 : n744 < n760 ∧ K758 n744 = 10 := ⟨by omega, ekq756⟩
                have g762 := hag761.s g748
                have g763 := hag761.se (g := g) g748 g749
                have g764 := hag761.s g750
                have g765 := hag761.se (g := g) g750 g751
                have g766 := hag761.t g752
                have g767 := hag761.e g752 g753
                have ag768 := (ag754).tr hag761
                refine W.widen (k := 380) (n := 100499) (by omega) (by omega) ?_
                refine lv_dup hx hb dL_errors_225 rfl ?_
                replace hf := obE hf
                obtain ⟨z769, hz769, hf⟩ := hf
                obtain ⟨S770, n772⟩ := z769
                replace hf := ltE (ltE hf S770 rfl) n772 rfl
                refine x_acallI (As := []) (rest := [.ref (q756), .ref (q153)]) (S1 := S770) (n1 := n772) (o := (fun _ => none)) (P := (fun _ => True)) hC hl.1 hW hS hGs hA (c_J4_init_da8c8 l g ad757 n760 K758 H.size F S759 n744 tq756 S770 n772 hz769) (cwI 0 hts gL_errors_J4_init_da8c8 rfl rfl rfl w_7 w_8 w_9 rfl (by decide +kernel) ⟨Nat.le_of_ble_eq_true rfl, Nat.le_of_ble_eq_true rfl⟩) rfl (by rw [eqq756] <;> rfl) (Nat.le_of_ble_eq_true rfl) dL_errors_226 ⟨(show 380 + 1 ≤ 648 by omega), (show 100499 + 32 ≤ 165707 by omega)⟩ (fun ad773 K774 H locs hag775 hPz769 hW hS => ?_)
                have g776 := hag775.s g762
                have g777 := hag775.se (g := g) g762 g763
                have g778 := hag775.s g764
                have g779 := hag775.se (g := g) g764 g765
                have g780 := hag775.t g766
                have g781 := hag775.e g766 g767
                have g782 := hag775.t tq756
                have g783 := hag775.e tq756 eqq756
                have ag784 := (ag768).tr hag775
                refine W.widen (k := 381) (n := 100531) (by omega) (by omega) ?_
                refine W.eq (g2 := F0 m 229 ls [.ref (q756), .ref (q153)]) rfl ?_
                refine lv_aload_n hx hb dL_errors_229 rfl (lv_at hl 1 rfl) ?_
                replace hf := obE hf
                obtain ⟨z785, hz785, hf⟩ := hf
                obtain ⟨r787, S786, n788⟩ := z785
                replace hf := ltE (ltE (ltE hf r787 rfl) S786 rfl) n788 rfl
                refine x_acallV (As := [.ref (sad g ad773 r215)]) (rest := [.ref (q153)]) (S1 := S786) (n1 := n788) (o := (fun a => some (va_re a r787))) (P := (fun K9 => ∀ j, r787 = some j → j < n788 ∧ K9 j = 10)) hC hl.1 hW hS hGs hA g782 rfl (show vwCl[10]? = some (RJ4, TJ4, 4) ∧ ob 10 from ⟨rfl, by decide⟩) (c_J4_append_15ec4 l g ad773 n772 K774 H.size F S770 n744 r215 g782 g778 r787 S786 n788 hz785) (cwV 1 hts gL_errors_J4_append_15ec4 rfl rfl rfl (by decide +kernel) ⟨Nat.le_of_ble_eq_true rfl, Nat.le_of_ble_eq_true rfl⟩) rfl (by rw [g783, g779] <;> rfl) (Nat.le_of_ble_eq_true rfl) dL_errors_230 ⟨(show 381 + 1 ≤ 648 by omega), (show 100531 + 1024 ≤ 165707 by omega)⟩ (fun ad789 K790 H locs hag791 hPz785 hW hS => ?_)
                have g792 := hag791.s g776
                have g793 := hag791.se (g := g) g776 g777
                have g794 := hag791.s g778
                have g795 := hag791.se (g := g) g778 g779
                have g796 := hag791.t g780
                have g797 := hag791.e g780 g781
                have ag798 := (ag784).tr hag791
                refine W.widen (k := 382) (n := 101555) (by omega) (by omega) ?_
                replace hf := obE hf
                obtain ⟨j799, qj799, hf⟩ := hf
                have tj799 := hPz785 j799 qj799
                refine W.eq (g2 := F0 m 233 ls [.ref (ad789 j799), .ref (q153)]) (by rw [qj799]; rfl) ?_
                refine x_ldcM 31 (tx := "class b days 1 keep 100;") hC hGM ⟨rfl, by decide⟩ dL_errors_233 ?_
                replace hf := obE hf
                obtain ⟨z800, hz800, hf⟩ := hf
                obtain ⟨r802, S801, n803⟩ := z800
                replace hf := ltE (ltE (ltE hf r802 rfl) S801 rfl) n803 rfl
                refine x_acallV (As := [.ref (sad g ad789 ((31 : Nat)))]) (rest := [.ref (q153)]) (S1 := S801) (n1 := n803) (o := (fun a => some (va_re a r802))) (P := (fun K9 => ∀ j, r802 = some j → j < n803 ∧ K9 j = 10)) hC hl.1 hW hS hGs hA tj799 rfl (show vwCl[10]? = some (RJ4, TJ4, 4) ∧ ob 10 from ⟨rfl, by decide⟩) (c_J4_append_15ec4 l g ad789 n788 K790 H.size F S786 j799 ((31 : Nat)) tj799 (tS_c (by decide)) r802 S801 n803 hz800) (cwV 1 hts gL_errors_J4_append_15ec4 rfl rfl rfl (by decide +kernel) ⟨Nat.le_of_ble_eq_true rfl, Nat.le_of_ble_eq_true rfl⟩) rfl rfl (Nat.le_of_ble_eq_true rfl) dL_errors_235 ⟨(show 382 + 1 ≤ 648 by omega), (show 101555 + 1024 ≤ 165707 by omega)⟩ (fun ad804 K805 H locs hag806 hPz800 hW hS => ?_)
                have g807 := hag806.s g792
                have g808 := hag806.se (g := g) g792 g793
                have g809 := hag806.s g794
                have g810 := hag806.se (g := g) g794 g795
                have g811 := hag806.t g796
                have g812 := hag806.e g796 g797
                have ag813 := (ag798).tr hag806
                refine W.widen (k := 383) (n := 102579) (by omega) (by omega) ?_
                replace hf := obE hf
                obtain ⟨j814, qj814, hf⟩ := hf
                have tj814 := hPz800 j814 qj814
                refine W.eq (g2 := F0 m 238 ls [.ref (ad804 j814), .ref (q153)]) (by rw [qj814]; rfl) ?_
                replace hf := obE hf
                obtain ⟨z815, hz815, hf⟩ := hf
                obtain ⟨r817, S816, n818⟩ := z815
                replace hf := ltE (ltE (ltE hf r817 rfl) S816 rfl) n818 rfl
                refine x_acallV (As := []) (rest := [.ref (q153)]) (S1 := S816) (n1 := n818) (o := (fun a => some (.ref (sad g a r817)))) (P := (fun K9 => tS 18 n818 K9 r817)) hC hl.1 hW hS hGs hA tj814 rfl (show vwCl[10]? = some (RJ4, TJ4, 4) ∧ ob 10 from ⟨rfl, by decide⟩) (c_J4_toString_0e30d l g ad804 n803 K805 H.size F S801 j814 tj814 r817 S816 n818 hz815) (cwV 0 hts gL_errors_J4_toString_0e30d rfl rfl rfl (by decide +kernel) ⟨Nat.le_of_ble_eq_true rfl, Nat.le_of_ble_eq_true rfl⟩) rfl rfl (Nat.le_of_ble_eq_true rfl) dL_errors_238 ⟨(show 383 + 2 ≤ 648 by omega), (show 102579 + 1028 ≤ 165707 by omega)⟩ (fun ad819 K820 H locs hag821 hPz815 hW hS => ?_)
                have g822 := hag821.s g807
                have g823 := hag821.se (g := g) g807 g808
                have g824 := hag821.s g809
                have g825 := hag821.se (g := g) g809 g810
                have g826 := hag821.t g811
                have g827 := hag821.e g811 g812
                have ag828 := (ag813).tr hag821
                refine W.widen (k := 385) (n := 103607) (by omega) (by omega) ?_
                refine W.eq (g2 := F0 m 241 ls [.ref ((sad g ad819 r817)), .ref (q153)]) rfl ?_
                refine lv_iconst (v := 2) hx hb dL_errors_241 (by decide) ?_
                refine lv_bipush (v := 57) hx hb dL_errors_242 (by decide) ?_
                replace hf := obE hf
                obtain ⟨z829, hz829, hf⟩ := hf
                obtain ⟨r831, S830, n832⟩ := z829
                replace hf := ltE (ltE (ltE hf r831 rfl) S830 rfl) n832 rfl
                refine x_acallS (As := [.ref (ad819 n), .ref ((sad g ad819 r817)), .int 2, .int 57]) (rest := []) (S1 := S830) (n1 := n832) (o := (fun _ => some (.int r831))) (P := (fun _ => True)) hC hl.1 hW hS hGs hA (c_L_wrong l g ad819 n818 K820 H.size F S816 n r817 ((2 : Int32)) ((57 : Int32)) g826 hPz815 r831 S830 n832 hz829) (va_cwS 4 hts gL_errors_L_wrong rfl rfl rfl (by decide +kernel) ⟨Nat.le_of_ble_eq_true rfl, Nat.le_of_ble_eq_true rfl⟩) rfl (by rw [g827] <;> rfl) (Nat.le_of_ble_eq_true rfl) dL_errors_244 ⟨(show 385 + 20 ≤ 648 by omega), (show 103607 + 148 ≤ 165707 by omega)⟩ (fun ad833 K834 H locs hag835 hPz829 hW hS => ?_)
                have g836 := hag835.s g822
                have g837 := hag835.se (g := g) g822 g823
                have g838 := hag835.s g824
                have g839 := hag835.se (g := g) g824 g825
                have g840 := hag835.t g826
                have g841 := hag835.e g826 g827
                have ag842 := (ag828).tr hag835
                refine W.widen (k := 405) (n := 103755) (by omega) (by omega) ?_
                refine W.eq (g2 := F0 m 247 ls [.int r831]) rfl ?_
                refine lv_if_eq (tgt := 366) hx hb dL_errors_247 (by decide) (fun c843 => ?_) (fun c843 => ?_)
                · replace hf := ifT c843 hf
                  refine lv_iconst (v := 0) hx hb dL_errors_366 (by decide) ?_
                  obtain ⟨e1, e2, e3⟩ := so3 hf
                  subst e1
                  subst e2
                  subst e3
                  refine W.widen (k := 648) (n := 165707) (by omega) (by omega) ?_
                  exact W.zret (v := 0) hx hb hr rfl (fun t ht hWm => ⟨⟨ad833, K834, rfl, ag842, trivial, by rw [ht]; exact hW⟩, hS.F ht⟩) hS.2.2 dL_errors_367 hlk
                · replace hf := ifF c843 hf
                  refine lv_aload_n hx hb dL_errors_250 rfl (lv_at hl 3 rfl) ?_
                  refine x_new (ci := 10) (C := RJ4) (T := TJ4) (N := 4) hC hinJ4 tyJ4_ok hW hS hA ⟨rfl, by decide, by decide⟩ (by decide +kernel) w_5 w_6 w_7 (show 405 + 1 ≤ 648 by omega) (show 103755 + 4 ≤ 165707 by omega) dL_errors_251 (fun q844 ad845 K846 S847 H eS847 hag849 eqq844 ekq844 hW hS => ?_)
                  replace hf := ltE hf S847 eS847
                  obtain ⟨n848, en848⟩ : ∃ z, z = n832 + 1 := ⟨_, rfl⟩
                  rw [← en848] at hag849 hW
                  replace hf := ltE hf n848 en848
                  have tq844 : n832 < n848 ∧ K846 n832 = 10 := ⟨by omega, ekq844⟩
                  have g850 := hag849.s g836
                  have g851 := hag849.se (g := g) g836 g837
                  have g852 := hag849.s g838
                  have g853 := hag849.se (g := g) g838 g839
                  have g854 := hag849.t g840
                  have g855 := hag849.e g840 g841
                  have ag856 := (ag842).tr hag849
                  refine W.widen (k := 406) (n := 103759) (by omega) (by omega) ?_
                  refine lv_dup hx hb dL_errors_254 rfl ?_
                  replace hf := obE hf
                  obtain ⟨z857, hz857, hf⟩ := hf
                  obtain ⟨S858, n860⟩ := z857
                  replace hf := ltE (ltE hf S858 rfl) n860 rfl
                  refine x_acallI (As := []) (rest := [.ref (q844), .ref (q153)]) (S1 := S858) (n1 := n860) (o := (fun _ => none)) (P := (fun _ => True)) hC hl.1 hW hS hGs hA (c_J4_init_da8c8 l g ad845 n848 K846 H.size F S847 n832 tq844 S858 n860 hz857) (cwI 0 hts gL_errors_J4_init_da8c8 rfl rfl rfl w_7 w_8 w_9 rfl (by decide +kernel) ⟨Nat.le_of_ble_eq_true rfl, Nat.le_of_ble_eq_true rfl⟩) rfl (by rw [eqq844] <;> rfl) (Nat.le_of_ble_eq_true rfl) dL_errors_255 ⟨(show 406 + 1 ≤ 648 by omega), (show 103759 + 32 ≤ 165707 by omega)⟩ (fun ad861 K862 H locs hag863 hPz857 hW hS => ?_)
                  have g864 := hag863.s g850
                  have g865 := hag863.se (g := g) g850 g851
                  have g866 := hag863.s g852
                  have g867 := hag863.se (g := g) g852 g853
                  have g868 := hag863.t g854
                  have g869 := hag863.e g854 g855
                  have g870 := hag863.t tq844
                  have g871 := hag863.e tq844 eqq844
                  have ag872 := (ag856).tr hag863
                  refine W.widen (k := 407) (n := 103791) (by omega) (by omega) ?_
                  refine W.eq (g2 := F0 m 258 ls [.ref (q844), .ref (q153)]) rfl ?_
                  refine lv_aload_n hx hb dL_errors_258 rfl (lv_at hl 1 rfl) ?_
                  replace hf := obE hf
                  obtain ⟨z873, hz873, hf⟩ := hf
                  obtain ⟨r875, S874, n876⟩ := z873
                  replace hf := ltE (ltE (ltE hf r875 rfl) S874 rfl) n876 rfl
                  refine x_acallV (As := [.ref (sad g ad861 r215)]) (rest := [.ref (q153)]) (S1 := S874) (n1 := n876) (o := (fun a => some (va_re a r875))) (P := (fun K9 => ∀ j, r875 = some j → j < n876 ∧ K9 j = 10)) hC hl.1 hW hS hGs hA g870 rfl (show vwCl[10]? = some (RJ4, TJ4, 4) ∧ ob 10 from ⟨rfl, by decide⟩) (c_J4_append_15ec4 l g ad861 n860 K862 H.size F S858 n832 r215 g870 g866 r875 S874 n876 hz873) (cwV 1 hts gL_errors_J4_append_15ec4 rfl rfl rfl (by decide +kernel) ⟨Nat.le_of_ble_eq_true rfl, Nat.le_of_ble_eq_true rfl⟩) rfl (by rw [g871, g867] <;> rfl) (Nat.le_of_ble_eq_true rfl) dL_errors_259 ⟨(show 407 + 1 ≤ 648 by omega), (show 103791 + 1024 ≤ 165707 by omega)⟩ (fun ad877 K878 H locs hag879 hPz873 hW hS => ?_)
                  have g880 := hag879.s g864
                  have g881 := hag879.se (g := g) g864 g865
                  have g882 := hag879.s g866
                  have g883 := hag879.se (g := g) g866 g867
                  have g884 := hag879.t g868
                  have g885 := hag879.e g868 g869
                  have ag886 := (ag872).tr hag879
                  refine W.widen (k := 408) (n := 104815) (by omega) (by omega) ?_
                  replace hf := obE hf
                  obtain ⟨j887, qj887, hf⟩ := hf
                  have tj887 := hPz873 j887 qj887
                  refine W.eq (g2 := F0 m 262 ls [.ref (ad877 j887), .ref (q153)]) (by rw [qj887]; rfl) ?_
                  refine x_ldcM 32 (tx := "group g a;") hC hGM ⟨rfl, by decide⟩ dL_errors_262 ?_
                  replace hf := obE hf
                  obtain ⟨z888, hz888, hf⟩ := hf
                  obtain ⟨r890, S889, n891⟩ := z888
                  replace hf := ltE (ltE (ltE hf r890 rfl) S889 rfl) n891 rfl
                  refine x_acallV (As := [.ref (sad g ad877 ((32 : Nat)))]) (rest := [.ref (q153)]) (S1 := S889) (n1 := n891) (o := (fun a => some (va_re a r890))) (P := (fun K9 => ∀ j, r890 = some j → j < n891 ∧ K9 j = 10)) hC hl.1 hW hS hGs hA tj887 rfl (show vwCl[10]? = some (RJ4, TJ4, 4) ∧ ob 10 from ⟨rfl, by decide⟩) (c_J4_append_15ec4 l g ad877 n876 K878 H.size F S874 j887 ((32 : Nat)) tj887 (tS_c (by decide)) r890 S889 n891 hz888) (cwV 1 hts gL_errors_J4_append_15ec4 rfl rfl rfl (by decide +kernel) ⟨Nat.le_of_ble_eq_true rfl, Nat.le_of_ble_eq_true rfl⟩) rfl rfl (Nat.le_of_ble_eq_true rfl) dL_errors_264 ⟨(show 408 + 1 ≤ 648 by omega), (show 104815 + 1024 ≤ 165707 by omega)⟩ (fun ad892 K893 H locs hag894 hPz888 hW hS => ?_)
                  have g895 := hag894.s g880
                  have g896 := hag894.se (g := g) g880 g881
                  have g897 := hag894.s g882
                  have g898 := hag894.se (g := g) g882 g883
                  have g899 := hag894.t g884
                  have g900 := hag894.e g884 g885
                  have ag901 := (ag886).tr hag894
                  refine W.widen (k := 409) (n := 105839) (by omega) (by omega) ?_
                  replace hf := obE hf
                  obtain ⟨j902, qj902, hf⟩ := hf
                  have tj902 := hPz888 j902 qj902
                  refine W.eq (g2 := F0 m 267 ls [.ref (ad892 j902), .ref (q153)]) (by rw [qj902]; rfl) ?_
                  replace hf := obE hf
                  obtain ⟨z903, hz903, hf⟩ := hf
                  obtain ⟨r905, S904, n906⟩ := z903
                  replace hf := ltE (ltE (ltE hf r905 rfl) S904 rfl) n906 rfl
                  refine x_acallV (As := []) (rest := [.ref (q153)]) (S1 := S904) (n1 := n906) (o := (fun a => some (.ref (sad g a r905)))) (P := (fun K9 => tS 18 n906 K9 r905)) hC hl.1 hW hS hGs hA tj902 rfl (show vwCl[10]? = some (RJ4, TJ4, 4) ∧ ob 10 from ⟨rfl, by decide⟩) (c_J4_toString_0e30d l g ad892 n891 K893 H.size F S889 j902 tj902 r905 S904 n906 hz903) (cwV 0 hts gL_errors_J4_toString_0e30d rfl rfl rfl (by decide +kernel) ⟨Nat.le_of_ble_eq_true rfl, Nat.le_of_ble_eq_true rfl⟩) rfl rfl (Nat.le_of_ble_eq_true rfl) dL_errors_267 ⟨(show 409 + 2 ≤ 648 by omega), (show 105839 + 1028 ≤ 165707 by omega)⟩ (fun ad907 K908 H locs hag909 hPz903 hW hS => ?_)
                  have g910 := hag909.s g895
                  have g911 := hag909.se (g := g) g895 g896
                  have g912 := hag909.s g897
                  have g913 := hag909.se (g := g) g897 g898
                  have g914 := hag909.t g899
                  have g915 := hag909.e g899 g900
                  have ag916 := (ag901).tr hag909
                  refine W.widen (k := 411) (n := 106867) (by omega) (by omega) ?_
                  refine W.eq (g2 := F0 m 270 ls [.ref ((sad g ad907 r905)), .ref (q153)]) rfl ?_
                  refine lv_iconst (v := 4) hx hb dL_errors_270 (by decide) ?_
                  refine lv_bipush (v := 37) hx hb dL_errors_271 (by decide) ?_
                  replace hf := obE hf
                  obtain ⟨z917, hz917, hf⟩ := hf
                  obtain ⟨r919, S918, n920⟩ := z917
                  replace hf := ltE (ltE (ltE hf r919 rfl) S918 rfl) n920 rfl
                  refine x_acallS (As := [.ref (ad907 n), .ref ((sad g ad907 r905)), .int 4, .int 37]) (rest := []) (S1 := S918) (n1 := n920) (o := (fun _ => some (.int r919))) (P := (fun _ => True)) hC hl.1 hW hS hGs hA (c_L_wrong l g ad907 n906 K908 H.size F S904 n r905 ((4 : Int32)) ((37 : Int32)) g914 hPz903 r919 S918 n920 hz917) (va_cwS 4 hts gL_errors_L_wrong rfl rfl rfl (by decide +kernel) ⟨Nat.le_of_ble_eq_true rfl, Nat.le_of_ble_eq_true rfl⟩) rfl (by rw [g915] <;> rfl) (Nat.le_of_ble_eq_true rfl) dL_errors_273 ⟨(show 411 + 20 ≤ 648 by omega), (show 106867 + 148 ≤ 165707 by omega)⟩ (fun ad921 K922 H locs hag923 hPz917 hW hS => ?_)
                  have g924 := hag923.s g910
                  have g925 := hag923.se (g := g) g910 g911
                  have g926 := hag923.s g912
                  have g927 := hag923.se (g := g) g912 g913
                  have g928 := hag923.t g914
                  have g929 := hag923.e g914 g915
                  have ag930 := (ag916).tr hag923
                  refine W.widen (k := 431) (n := 107015) (by omega) (by omega) ?_
                  refine W.eq (g2 := F0 m 276 ls [.int r919]) rfl ?_
                  refine lv_if_eq (tgt := 366) hx hb dL_errors_276 (by decide) (fun c931 => ?_) (fun c931 => ?_)
                  · replace hf := ifT c931 hf
                    refine lv_iconst (v := 0) hx hb dL_errors_366 (by decide) ?_
                    obtain ⟨e1, e2, e3⟩ := so3 hf
                    subst e1
                    subst e2
                    subst e3
                    refine W.widen (k := 648) (n := 165707) (by omega) (by omega) ?_
                    exact W.zret (v := 0) hx hb hr rfl (fun t ht hWm => ⟨⟨ad921, K922, rfl, ag930, trivial, by rw [ht]; exact hW⟩, hS.F ht⟩) hS.2.2 dL_errors_367 hlk
                  · replace hf := ifF c931 hf
                    refine lv_aload_n hx hb dL_errors_279 rfl (lv_at hl 3 rfl) ?_
                    refine x_new (ci := 10) (C := RJ4) (T := TJ4) (N := 4) hC hinJ4 tyJ4_ok hW hS hA ⟨rfl, by decide, by decide⟩ (by decide +kernel) w_5 w_6 w_7 (show 431 + 1 ≤ 648 by omega) (show 107015 + 4 ≤ 165707 by omega) dL_errors_280 (fun q932 ad933 K934 S935 H eS935 hag937 eqq932 ekq932 hW hS => ?_)
                    replace hf := ltE hf S935 eS935
                    obtain ⟨n936, en936⟩ : ∃ z, z = n920 + 1 := ⟨_, rfl⟩
                    rw [← en936] at hag937 hW
                    replace hf := ltE hf n936 en936
                    have tq932 : n920 < n936 ∧ K934 n920 = 10 := ⟨by omega, ekq932⟩
                    have g938 := hag937.s g924
                    have g939 := hag937.se (g := g) g924 g925
                    have g940 := hag937.s g926
                    have g941 := hag937.se (g := g) g926 g927
                    have g942 := hag937.t g928
                    have g943 := hag937.e g928 g929
                    have ag944 := (ag930).tr hag937
                    refine W.widen (k := 432) (n := 107019) (by omega) (by omega) ?_
                    refine lv_dup hx hb dL_errors_283 rfl ?_
                    replace hf := obE hf
                    obtain ⟨z945, hz945, hf⟩ := hf
                    obtain ⟨S946, n948⟩ := z945
                    replace hf := ltE (ltE hf S946 rfl) n948 rfl
                    refine x_acallI (As := []) (rest := [.ref (q932), .ref (q153)]) (S1 := S946) (n1 := n948) (o := (fun _ => none)) (P := (fun _ => True)) hC hl.1 hW hS hGs hA (c_J4_init_da8c8 l g ad933 n936 K934 H.size F S935 n920 tq932 S946 n948 hz945) (cwI 0 hts gL_errors_J4_init_da8c8 rfl rfl rfl w_7 w_8 w_9 rfl (by decide +kernel) ⟨Nat.le_of_ble_eq_true rfl, Nat.le_of_ble_eq_true rfl⟩) rfl (by rw [eqq932] <;> rfl) (Nat.le_of_ble_eq_true rfl) dL_errors_284 ⟨(show 432 + 1 ≤ 648 by omega), (show 107019 + 32 ≤ 165707 by omega)⟩ (fun ad949 K950 H locs hag951 hPz945 hW hS => ?_)
                    have g952 := hag951.s g938
                    have g953 := hag951.se (g := g) g938 g939
                    have g954 := hag951.s g940
                    have g955 := hag951.se (g := g) g940 g941
                    have g956 := hag951.t g942
                    have g957 := hag951.e g942 g943
                    have g958 := hag951.t tq932
                    have g959 := hag951.e tq932 eqq932
                    have ag960 := (ag944).tr hag951
                    refine W.widen (k := 433) (n := 107051) (by omega) (by omega) ?_
                    refine W.eq (g2 := F0 m 287 ls [.ref (q932), .ref (q153)]) rfl ?_
                    refine lv_aload_n hx hb dL_errors_287 rfl (lv_at hl 1 rfl) ?_
                    replace hf := obE hf
                    obtain ⟨z961, hz961, hf⟩ := hf
                    obtain ⟨r963, S962, n964⟩ := z961
                    replace hf := ltE (ltE (ltE hf r963 rfl) S962 rfl) n964 rfl
                    refine x_acallV (As := [.ref (sad g ad949 r215)]) (rest := [.ref (q153)]) (S1 := S962) (n1 := n964) (o := (fun a => some (va_re a r963))) (P := (fun K9 => ∀ j, r963 = some j → j < n964 ∧ K9 j = 10)) hC hl.1 hW hS hGs hA g958 rfl (show vwCl[10]? = some (RJ4, TJ4, 4) ∧ ob 10 from ⟨rfl, by decide⟩) (c_J4_append_15ec4 l g ad949 n948 K950 H.size F S946 n920 r215 g958 g954 r963 S962 n964 hz961) (cwV 1 hts gL_errors_J4_append_15ec4 rfl rfl rfl (by decide +kernel) ⟨Nat.le_of_ble_eq_true rfl, Nat.le_of_ble_eq_true rfl⟩) rfl (by rw [g959, g955] <;> rfl) (Nat.le_of_ble_eq_true rfl) dL_errors_288 ⟨(show 433 + 1 ≤ 648 by omega), (show 107051 + 1024 ≤ 165707 by omega)⟩ (fun ad965 K966 H locs hag967 hPz961 hW hS => ?_)
                    have g968 := hag967.s g952
                    have g969 := hag967.se (g := g) g952 g953
                    have g970 := hag967.s g954
                    have g971 := hag967.se (g := g) g954 g955
                    have g972 := hag967.t g956
                    have g973 := hag967.e g956 g957
                    have ag974 := (ag960).tr hag967
                    refine W.widen (k := 434) (n := 108075) (by omega) (by omega) ?_
                    replace hf := obE hf
                    obtain ⟨j975, qj975, hf⟩ := hf
                    have tj975 := hPz961 j975 qj975
                    refine W.eq (g2 := F0 m 291 ls [.ref (ad965 j975), .ref (q153)]) (by rw [qj975]; rfl) ?_
                    refine x_ldcM 33 (tx := "user b class c quota 1;") hC hGM ⟨rfl, by decide⟩ dL_errors_291 ?_
                    replace hf := obE hf
                    obtain ⟨z976, hz976, hf⟩ := hf
                    obtain ⟨r978, S977, n979⟩ := z976
                    replace hf := ltE (ltE (ltE hf r978 rfl) S977 rfl) n979 rfl
                    refine x_acallV (As := [.ref (sad g ad965 ((33 : Nat)))]) (rest := [.ref (q153)]) (S1 := S977) (n1 := n979) (o := (fun a => some (va_re a r978))) (P := (fun K9 => ∀ j, r978 = some j → j < n979 ∧ K9 j = 10)) hC hl.1 hW hS hGs hA tj975 rfl (show vwCl[10]? = some (RJ4, TJ4, 4) ∧ ob 10 from ⟨rfl, by decide⟩) (c_J4_append_15ec4 l g ad965 n964 K966 H.size F S962 j975 ((33 : Nat)) tj975 (tS_c (by decide)) r978 S977 n979 hz976) (cwV 1 hts gL_errors_J4_append_15ec4 rfl rfl rfl (by decide +kernel) ⟨Nat.le_of_ble_eq_true rfl, Nat.le_of_ble_eq_true rfl⟩) rfl rfl (Nat.le_of_ble_eq_true rfl) dL_errors_293 ⟨(show 434 + 1 ≤ 648 by omega), (show 108075 + 1024 ≤ 165707 by omega)⟩ (fun ad980 K981 H locs hag982 hPz976 hW hS => ?_)
                    have g983 := hag982.s g968
                    have g984 := hag982.se (g := g) g968 g969
                    have g985 := hag982.s g970
                    have g986 := hag982.se (g := g) g970 g971
                    have g987 := hag982.t g972
                    have g988 := hag982.e g972 g973
                    have ag989 := (ag974).tr hag982
                    refine W.widen (k := 435) (n := 109099) (by omega) (by omega) ?_
                    replace hf := obE hf
                    obtain ⟨j990, qj990, hf⟩ := hf
                    have tj990 := hPz976 j990 qj990
                    refine W.eq (g2 := F0 m 296 ls [.ref (ad980 j990), .ref (q153)]) (by rw [qj990]; rfl) ?_
                    replace hf := obE hf
                    obtain ⟨z991, hz991, hf⟩ := hf
                    obtain ⟨r993, S992, n994⟩ := z991
                    replace hf := ltE (ltE (ltE hf r993 rfl) S992 rfl) n994 rfl
                    refine x_acallV (As := []) (rest := [.ref (q153)]) (S1 := S992) (n1 := n994) (o := (fun a => some (.ref (sad g a r993)))) (P := (fun K9 => tS 18 n994 K9 r993)) hC hl.1 hW hS hGs hA tj990 rfl (show vwCl[10]? = some (RJ4, TJ4, 4) ∧ ob 10 from ⟨rfl, by decide⟩) (c_J4_toString_0e30d l g ad980 n979 K981 H.size F S977 j990 tj990 r993 S992 n994 hz991) (cwV 0 hts gL_errors_J4_toString_0e30d rfl rfl rfl (by decide +kernel) ⟨Nat.le_of_ble_eq_true rfl, Nat.le_of_ble_eq_true rfl⟩) rfl rfl (Nat.le_of_ble_eq_true rfl) dL_errors_296 ⟨(show 435 + 2 ≤ 648 by omega), (show 109099 + 1028 ≤ 165707 by omega)⟩ (fun ad995 K996 H locs hag997 hPz991 hW hS => ?_)
                    have g998 := hag997.s g983
                    have g999 := hag997.se (g := g) g983 g984
                    have g1000 := hag997.s g985
                    have g1001 := hag997.se (g := g) g985 g986
                    have g1002 := hag997.t g987
                    have g1003 := hag997.e g987 g988
                    have ag1004 := (ag989).tr hag997
                    refine W.widen (k := 437) (n := 110127) (by omega) (by omega) ?_
                    refine W.eq (g2 := F0 m 299 ls [.ref ((sad g ad995 r993)), .ref (q153)]) rfl ?_
                    refine lv_iconst (v := 3) hx hb dL_errors_299 (by decide) ?_
                    refine lv_bipush (v := 50) hx hb dL_errors_300 (by decide) ?_
                    replace hf := obE hf
                    obtain ⟨z1005, hz1005, hf⟩ := hf
                    obtain ⟨r1007, S1006, n1008⟩ := z1005
                    replace hf := ltE (ltE (ltE hf r1007 rfl) S1006 rfl) n1008 rfl
                    refine x_acallS (As := [.ref (ad995 n), .ref ((sad g ad995 r993)), .int 3, .int 50]) (rest := []) (S1 := S1006) (n1 := n1008) (o := (fun _ => some (.int r1007))) (P := (fun _ => True)) hC hl.1 hW hS hGs hA (c_L_wrong l g ad995 n994 K996 H.size F S992 n r993 ((3 : Int32)) ((50 : Int32)) g1002 hPz991 r1007 S1006 n1008 hz1005) (va_cwS 4 hts gL_errors_L_wrong rfl rfl rfl (by decide +kernel) ⟨Nat.le_of_ble_eq_true rfl, Nat.le_of_ble_eq_true rfl⟩) rfl (by rw [g1003] <;> rfl) (Nat.le_of_ble_eq_true rfl) dL_errors_302 ⟨(show 437 + 20 ≤ 648 by omega), (show 110127 + 148 ≤ 165707 by omega)⟩ (fun ad1009 K1010 H locs hag1011 hPz1005 hW hS => ?_)
                    have g1012 := hag1011.s g998
                    have g1013 := hag1011.se (g := g) g998 g999
                    have g1014 := hag1011.s g1000
                    have g1015 := hag1011.se (g := g) g1000 g1001
                    have g1016 := hag1011.t g1002
                    have g1017 := hag1011.e g1002 g1003
                    have ag1018 := (ag1004).tr hag1011
                    refine W.widen (k := 457) (n := 110275) (by omega) (by omega) ?_
                    refine W.eq (g2 := F0 m 305 ls [.int r1007]) rfl ?_
                    refine lv_if_eq (tgt := 366) hx hb dL_errors_305 (by decide) (fun c1019 => ?_) (fun c1019 => ?_)
                    · replace hf := ifT c1019 hf
                      refine lv_iconst (v := 0) hx hb dL_errors_366 (by decide) ?_
                      obtain ⟨e1, e2, e3⟩ := so3 hf
                      subst e1
                      subst e2
                      subst e3
                      refine W.widen (k := 648) (n := 165707) (by omega) (by omega) ?_
                      exact W.zret (v := 0) hx hb hr rfl (fun t ht hWm => ⟨⟨ad1009, K1010, rfl, ag1018, trivial, by rw [ht]; exact hW⟩, hS.F ht⟩) hS.2.2 dL_errors_367 hlk
                    · replace hf := ifF c1019 hf
                      refine lv_aload_n hx hb dL_errors_308 rfl (lv_at hl 3 rfl) ?_
                      refine x_new (ci := 10) (C := RJ4) (T := TJ4) (N := 4) hC hinJ4 tyJ4_ok hW hS hA ⟨rfl, by decide, by decide⟩ (by decide +kernel) w_5 w_6 w_7 (show 457 + 1 ≤ 648 by omega) (show 110275 + 4 ≤ 165707 by omega) dL_errors_309 (fun q1020 ad1021 K1022 S1023 H eS1023 hag1025 eqq1020 ekq1020 hW hS => ?_)
                      replace hf := ltE hf S1023 eS1023
                      obtain ⟨n1024, en1024⟩ : ∃ z, z = n1008 + 1 := ⟨_, rfl⟩
                      rw [← en1024] at hag1025 hW
                      replace hf := ltE hf n1024 en1024
                      have tq1020 : n1008 < n1024 ∧ K1022 n1008 = 10 := ⟨by omega, ekq1020⟩
                      have g1026 := hag1025.s g1012
                      have g1027 := hag1025.se (g := g) g1012 g1013
                      have g1028 := hag1025.s g1014
                      have g1029 := hag1025.se (g := g) g1014 g1015
                      have g1030 := hag1025.t g1016
                      have g1031 := hag1025.e g1016 g1017
                      have ag1032 := (ag1018).tr hag1025
                      refine W.widen (k := 458) (n := 110279) (by omega) (by omega) ?_
                      refine lv_dup hx hb dL_errors_312 rfl ?_
                      replace hf := obE hf
                      obtain ⟨z1033, hz1033, hf⟩ := hf
                      obtain ⟨S1034, n1036⟩ := z1033
                      replace hf := ltE (ltE hf S1034 rfl) n1036 rfl
                      refine x_acallI (As := []) (rest := [.ref (q1020), .ref (q153)]) (S1 := S1034) (n1 := n1036) (o := (fun _ => none)) (P := (fun _ => True)) hC hl.1 hW hS hGs hA (c_J4_init_da8c8 l g ad1021 n1024 K1022 H.size F S1023 n1008 tq1020 S1034 n1036 hz1033) (cwI 0 hts gL_errors_J4_init_da8c8 rfl rfl rfl w_7 w_8 w_9 rfl (by decide +kernel) ⟨Nat.le_of_ble_eq_true rfl, Nat.le_of_ble_eq_true rfl⟩) rfl (by rw [eqq1020] <;> rfl) (Nat.le_of_ble_eq_true rfl) dL_errors_313 ⟨(show 458 + 1 ≤ 648 by omega), (show 110279 + 32 ≤ 165707 by omega)⟩ (fun ad1037 K1038 H locs hag1039 hPz1033 hW hS => ?_)
                      have g1040 := hag1039.s g1026
                      have g1041 := hag1039.se (g := g) g1026 g1027
                      have g1042 := hag1039.s g1028
                      have g1043 := hag1039.se (g := g) g1028 g1029
                      have g1044 := hag1039.t g1030
                      have g1045 := hag1039.e g1030 g1031
                      have g1046 := hag1039.t tq1020
                      have g1047 := hag1039.e tq1020 eqq1020
                      have ag1048 := (ag1032).tr hag1039
                      refine W.widen (k := 459) (n := 110311) (by omega) (by omega) ?_
                      refine W.eq (g2 := F0 m 316 ls [.ref (q1020), .ref (q153)]) rfl ?_
                      refine lv_aload_n hx hb dL_errors_316 rfl (lv_at hl 0 rfl) ?_
                      replace hf := obE hf
                      obtain ⟨z1049, hz1049, hf⟩ := hf
                      obtain ⟨r1051, S1050, n1052⟩ := z1049
                      replace hf := ltE (ltE (ltE hf r1051 rfl) S1050 rfl) n1052 rfl
                      refine x_acallV (As := [.ref (sad g ad1037 r276)]) (rest := [.ref (q153)]) (S1 := S1050) (n1 := n1052) (o := (fun a => some (va_re a r1051))) (P := (fun K9 => ∀ j, r1051 = some j → j < n1052 ∧ K9 j = 10)) hC hl.1 hW hS hGs hA g1046 rfl (show vwCl[10]? = some (RJ4, TJ4, 4) ∧ ob 10 from ⟨rfl, by decide⟩) (c_J4_append_15ec4 l g ad1037 n1036 K1038 H.size F S1034 n1008 r276 g1046 g1040 r1051 S1050 n1052 hz1049) (cwV 1 hts gL_errors_J4_append_15ec4 rfl rfl rfl (by decide +kernel) ⟨Nat.le_of_ble_eq_true rfl, Nat.le_of_ble_eq_true rfl⟩) rfl (by rw [g1047, g1041] <;> rfl) (Nat.le_of_ble_eq_true rfl) dL_errors_317 ⟨(show 459 + 1 ≤ 648 by omega), (show 110311 + 1024 ≤ 165707 by omega)⟩ (fun ad1053 K1054 H locs hag1055 hPz1049 hW hS => ?_)
                      have g1056 := hag1055.s g1040
                      have g1057 := hag1055.se (g := g) g1040 g1041
                      have g1058 := hag1055.s g1042
                      have g1059 := hag1055.se (g := g) g1042 g1043
                      have g1060 := hag1055.t g1044
                      have g1061 := hag1055.e g1044 g1045
                      have ag1062 := (ag1048).tr hag1055
                      refine W.widen (k := 460) (n := 111335) (by omega) (by omega) ?_
                      replace hf := obE hf
                      obtain ⟨j1063, qj1063, hf⟩ := hf
                      have tj1063 := hPz1049 j1063 qj1063
                      refine W.eq (g2 := F0 m 320 ls [.ref (ad1053 j1063), .ref (q153)]) (by rw [qj1063]; rfl) ?_
                      refine x_ldcM 34 (tx := "group b b;") hC hGM ⟨rfl, by decide⟩ dL_errors_320 ?_
                      replace hf := obE hf
                      obtain ⟨z1064, hz1064, hf⟩ := hf
                      obtain ⟨r1066, S1065, n1067⟩ := z1064
                      replace hf := ltE (ltE (ltE hf r1066 rfl) S1065 rfl) n1067 rfl
                      refine x_acallV (As := [.ref (sad g ad1053 ((34 : Nat)))]) (rest := [.ref (q153)]) (S1 := S1065) (n1 := n1067) (o := (fun a => some (va_re a r1066))) (P := (fun K9 => ∀ j, r1066 = some j → j < n1067 ∧ K9 j = 10)) hC hl.1 hW hS hGs hA tj1063 rfl (show vwCl[10]? = some (RJ4, TJ4, 4) ∧ ob 10 from ⟨rfl, by decide⟩) (c_J4_append_15ec4 l g ad1053 n1052 K1054 H.size F S1050 j1063 ((34 : Nat)) tj1063 (tS_c (by decide)) r1066 S1065 n1067 hz1064) (cwV 1 hts gL_errors_J4_append_15ec4 rfl rfl rfl (by decide +kernel) ⟨Nat.le_of_ble_eq_true rfl, Nat.le_of_ble_eq_true rfl⟩) rfl rfl (Nat.le_of_ble_eq_true rfl) dL_errors_322 ⟨(show 460 + 1 ≤ 648 by omega), (show 111335 + 1024 ≤ 165707 by omega)⟩ (fun ad1068 K1069 H locs hag1070 hPz1064 hW hS => ?_)
                      have g1071 := hag1070.s g1056
                      have g1072 := hag1070.se (g := g) g1056 g1057
                      have g1073 := hag1070.s g1058
                      have g1074 := hag1070.se (g := g) g1058 g1059
                      have g1075 := hag1070.t g1060
                      have g1076 := hag1070.e g1060 g1061
                      have ag1077 := (ag1062).tr hag1070
                      refine W.widen (k := 461) (n := 112359) (by omega) (by omega) ?_
                      replace hf := obE hf
                      obtain ⟨j1078, qj1078, hf⟩ := hf
                      have tj1078 := hPz1064 j1078 qj1078
                      refine W.eq (g2 := F0 m 325 ls [.ref (ad1068 j1078), .ref (q153)]) (by rw [qj1078]; rfl) ?_
                      replace hf := obE hf
                      obtain ⟨z1079, hz1079, hf⟩ := hf
                      obtain ⟨r1081, S1080, n1082⟩ := z1079
                      replace hf := ltE (ltE (ltE hf r1081 rfl) S1080 rfl) n1082 rfl
                      refine x_acallV (As := []) (rest := [.ref (q153)]) (S1 := S1080) (n1 := n1082) (o := (fun a => some (.ref (sad g a r1081)))) (P := (fun K9 => tS 18 n1082 K9 r1081)) hC hl.1 hW hS hGs hA tj1078 rfl (show vwCl[10]? = some (RJ4, TJ4, 4) ∧ ob 10 from ⟨rfl, by decide⟩) (c_J4_toString_0e30d l g ad1068 n1067 K1069 H.size F S1065 j1078 tj1078 r1081 S1080 n1082 hz1079) (cwV 0 hts gL_errors_J4_toString_0e30d rfl rfl rfl (by decide +kernel) ⟨Nat.le_of_ble_eq_true rfl, Nat.le_of_ble_eq_true rfl⟩) rfl rfl (Nat.le_of_ble_eq_true rfl) dL_errors_325 ⟨(show 461 + 2 ≤ 648 by omega), (show 112359 + 1028 ≤ 165707 by omega)⟩ (fun ad1083 K1084 H locs hag1085 hPz1079 hW hS => ?_)
                      have g1086 := hag1085.s g1071
                      have g1087 := hag1085.se (g := g) g1071 g1072
                      have g1088 := hag1085.s g1073
                      have g1089 := hag1085.se (g := g) g1073 g1074
                      have g1090 := hag1085.t g1075
                      have g1091 := hag1085.e g1075 g1076
                      have ag1092 := (ag1077).tr hag1085
                      refine W.widen (k := 463) (n := 113387) (by omega) (by omega) ?_
                      refine W.eq (g2 := F0 m 328 ls [.ref ((sad g ad1083 r1081)), .ref (q153)]) rfl ?_
                      refine lv_iconst (v := 3) hx hb dL_errors_328 (by decide) ?_
                      refine lv_bipush (v := 66) hx hb dL_errors_329 (by decide) ?_
                      replace hf := obE hf
                      obtain ⟨z1093, hz1093, hf⟩ := hf
                      obtain ⟨r1095, S1094, n1096⟩ := z1093
                      replace hf := ltE (ltE (ltE hf r1095 rfl) S1094 rfl) n1096 rfl
                      refine x_acallS (As := [.ref (ad1083 n), .ref ((sad g ad1083 r1081)), .int 3, .int 66]) (rest := []) (S1 := S1094) (n1 := n1096) (o := (fun _ => some (.int r1095))) (P := (fun _ => True)) hC hl.1 hW hS hGs hA (c_L_wrong l g ad1083 n1082 K1084 H.size F S1080 n r1081 ((3 : Int32)) ((66 : Int32)) g1090 hPz1079 r1095 S1094 n1096 hz1093) (va_cwS 4 hts gL_errors_L_wrong rfl rfl rfl (by decide +kernel) ⟨Nat.le_of_ble_eq_true rfl, Nat.le_of_ble_eq_true rfl⟩) rfl (by rw [g1091] <;> rfl) (Nat.le_of_ble_eq_true rfl) dL_errors_331 ⟨(show 463 + 20 ≤ 648 by omega), (show 113387 + 148 ≤ 165707 by omega)⟩ (fun ad1097 K1098 H locs hag1099 hPz1093 hW hS => ?_)
                      have g1100 := hag1099.s g1086
                      have g1101 := hag1099.se (g := g) g1086 g1087
                      have g1102 := hag1099.s g1088
                      have g1103 := hag1099.se (g := g) g1088 g1089
                      have g1104 := hag1099.t g1090
                      have g1105 := hag1099.e g1090 g1091
                      have ag1106 := (ag1092).tr hag1099
                      refine W.widen (k := 483) (n := 113535) (by omega) (by omega) ?_
                      refine W.eq (g2 := F0 m 334 ls [.int r1095]) rfl ?_
                      refine lv_if_eq (tgt := 366) hx hb dL_errors_334 (by decide) (fun c1107 => ?_) (fun c1107 => ?_)
                      · replace hf := ifT c1107 hf
                        refine lv_iconst (v := 0) hx hb dL_errors_366 (by decide) ?_
                        obtain ⟨e1, e2, e3⟩ := so3 hf
                        subst e1
                        subst e2
                        subst e3
                        refine W.widen (k := 648) (n := 165707) (by omega) (by omega) ?_
                        exact W.zret (v := 0) hx hb hr rfl (fun t ht hWm => ⟨⟨ad1097, K1098, rfl, ag1106, trivial, by rw [ht]; exact hW⟩, hS.F ht⟩) hS.2.2 dL_errors_367 hlk
                      · replace hf := ifF c1107 hf
                        refine lv_aload_n hx hb dL_errors_337 rfl (lv_at hl 3 rfl) ?_
                        refine x_new (ci := 10) (C := RJ4) (T := TJ4) (N := 4) hC hinJ4 tyJ4_ok hW hS hA ⟨rfl, by decide, by decide⟩ (by decide +kernel) w_5 w_6 w_7 (show 483 + 1 ≤ 648 by omega) (show 113535 + 4 ≤ 165707 by omega) dL_errors_338 (fun q1108 ad1109 K1110 S1111 H eS1111 hag1113 eqq1108 ekq1108 hW hS => ?_)
                        replace hf := ltE hf S1111 eS1111
                        obtain ⟨n1112, en1112⟩ : ∃ z, z = n1096 + 1 := ⟨_, rfl⟩
                        rw [← en1112] at hag1113 hW
                        replace hf := ltE hf n1112 en1112
                        have tq1108 : n1096 < n1112 ∧ K1110 n1096 = 10 := ⟨by omega, ekq1108⟩
                        have g1114 := hag1113.s g1100
                        have g1115 := hag1113.se (g := g) g1100 g1101
                        have g1116 := hag1113.s g1102
                        have g1117 := hag1113.se (g := g) g1102 g1103
                        have g1118 := hag1113.t g1104
                        have g1119 := hag1113.e g1104 g1105
                        have ag1120 := (ag1106).tr hag1113
                        refine W.widen (k := 484) (n := 113539) (by omega) (by omega) ?_
                        refine lv_dup hx hb dL_errors_341 rfl ?_
                        replace hf := obE hf
                        obtain ⟨z1121, hz1121, hf⟩ := hf
                        obtain ⟨S1122, n1124⟩ := z1121
                        replace hf := ltE (ltE hf S1122 rfl) n1124 rfl
                        refine x_acallI (As := []) (rest := [.ref (q1108), .ref (q153)]) (S1 := S1122) (n1 := n1124) (o := (fun _ => none)) (P := (fun _ => True)) hC hl.1 hW hS hGs hA (c_J4_init_da8c8 l g ad1109 n1112 K1110 H.size F S1111 n1096 tq1108 S1122 n1124 hz1121) (cwI 0 hts gL_errors_J4_init_da8c8 rfl rfl rfl w_7 w_8 w_9 rfl (by decide +kernel) ⟨Nat.le_of_ble_eq_true rfl, Nat.le_of_ble_eq_true rfl⟩) rfl (by rw [eqq1108] <;> rfl) (Nat.le_of_ble_eq_true rfl) dL_errors_342 ⟨(show 484 + 1 ≤ 648 by omega), (show 113539 + 32 ≤ 165707 by omega)⟩ (fun ad1125 K1126 H locs hag1127 hPz1121 hW hS => ?_)
                        have g1128 := hag1127.s g1114
                        have g1129 := hag1127.se (g := g) g1114 g1115
                        have g1130 := hag1127.s g1116
                        have g1131 := hag1127.se (g := g) g1116 g1117
                        have g1132 := hag1127.t g1118
                        have g1133 := hag1127.e g1118 g1119
                        have g1134 := hag1127.t tq1108
                        have g1135 := hag1127.e tq1108 eqq1108
                        have ag1136 := (ag1120).tr hag1127
                        refine W.widen (k := 485) (n := 113571) (by omega) (by omega) ?_
                        refine W.eq (g2 := F0 m 345 ls [.ref (q1108), .ref (q153)]) rfl ?_
                        refine lv_aload_n hx hb dL_errors_345 rfl (lv_at hl 0 rfl) ?_
                        replace hf := obE hf
                        obtain ⟨z1137, hz1137, hf⟩ := hf
                        obtain ⟨r1139, S1138, n1140⟩ := z1137
                        replace hf := ltE (ltE (ltE hf r1139 rfl) S1138 rfl) n1140 rfl
                        refine x_acallV (As := [.ref (sad g ad1125 r276)]) (rest := [.ref (q153)]) (S1 := S1138) (n1 := n1140) (o := (fun a => some (va_re a r1139))) (P := (fun K9 => ∀ j, r1139 = some j → j < n1140 ∧ K9 j = 10)) hC hl.1 hW hS hGs hA g1134 rfl (show vwCl[10]? = some (RJ4, TJ4, 4) ∧ ob 10 from ⟨rfl, by decide⟩) (c_J4_append_15ec4 l g ad1125 n1124 K1126 H.size F S1122 n1096 r276 g1134 g1128 r1139 S1138 n1140 hz1137) (cwV 1 hts gL_errors_J4_append_15ec4 rfl rfl rfl (by decide +kernel) ⟨Nat.le_of_ble_eq_true rfl, Nat.le_of_ble_eq_true rfl⟩) rfl (by rw [g1135, g1129] <;> rfl) (Nat.le_of_ble_eq_true rfl) dL_errors_346 ⟨(show 485 + 1 ≤ 648 by omega), (show 113571 + 1024 ≤ 165707 by omega)⟩ (fun ad1141 K1142 H locs hag1143 hPz1137 hW hS => ?_)
                        have g1144 := hag1143.s g1128
                        have g1145 := hag1143.se (g := g) g1128 g1129
                        have g1146 := hag1143.s g1130
                        have g1147 := hag1143.se (g := g) g1130 g1131
                        have g1148 := hag1143.t g1132
                        have g1149 := hag1143.e g1132 g1133
                        have ag1150 := (ag1136).tr hag1143
                        refine W.widen (k := 486) (n := 114595) (by omega) (by omega) ?_
                        replace hf := obE hf
                        obtain ⟨j1151, qj1151, hf⟩ := hf
                        have tj1151 := hPz1137 j1151 qj1151
                        refine W.eq (g2 := F0 m 349 ls [.ref (ad1141 j1151), .ref (q153)]) (by rw [qj1151]; rfl) ?_
                        refine x_ldcM 35 (tx := "group g g;") hC hGM ⟨rfl, by decide⟩ dL_errors_349 ?_
                        replace hf := obE hf
                        obtain ⟨z1152, hz1152, hf⟩ := hf
                        obtain ⟨r1154, S1153, n1155⟩ := z1152
                        replace hf := ltE (ltE (ltE hf r1154 rfl) S1153 rfl) n1155 rfl
                        refine x_acallV (As := [.ref (sad g ad1141 ((35 : Nat)))]) (rest := [.ref (q153)]) (S1 := S1153) (n1 := n1155) (o := (fun a => some (va_re a r1154))) (P := (fun K9 => ∀ j, r1154 = some j → j < n1155 ∧ K9 j = 10)) hC hl.1 hW hS hGs hA tj1151 rfl (show vwCl[10]? = some (RJ4, TJ4, 4) ∧ ob 10 from ⟨rfl, by decide⟩) (c_J4_append_15ec4 l g ad1141 n1140 K1142 H.size F S1138 j1151 ((35 : Nat)) tj1151 (tS_c (by decide)) r1154 S1153 n1155 hz1152) (cwV 1 hts gL_errors_J4_append_15ec4 rfl rfl rfl (by decide +kernel) ⟨Nat.le_of_ble_eq_true rfl, Nat.le_of_ble_eq_true rfl⟩) rfl rfl (Nat.le_of_ble_eq_true rfl) dL_errors_351 ⟨(show 486 + 1 ≤ 648 by omega), (show 114595 + 1024 ≤ 165707 by omega)⟩ (fun ad1156 K1157 H locs hag1158 hPz1152 hW hS => ?_)
                        have g1159 := hag1158.s g1144
                        have g1160 := hag1158.se (g := g) g1144 g1145
                        have g1161 := hag1158.s g1146
                        have g1162 := hag1158.se (g := g) g1146 g1147
                        have g1163 := hag1158.t g1148
                        have g1164 := hag1158.e g1148 g1149
                        have ag1165 := (ag1150).tr hag1158
                        refine W.widen (k := 487) (n := 115619) (by omega) (by omega) ?_
                        replace hf := obE hf
                        obtain ⟨j1166, qj1166, hf⟩ := hf
                        have tj1166 := hPz1152 j1166 qj1166
                        refine W.eq (g2 := F0 m 354 ls [.ref (ad1156 j1166), .ref (q153)]) (by rw [qj1166]; rfl) ?_
                        replace hf := obE hf
                        obtain ⟨z1167, hz1167, hf⟩ := hf
                        obtain ⟨r1169, S1168, n1170⟩ := z1167
                        replace hf := ltE (ltE (ltE hf r1169 rfl) S1168 rfl) n1170 rfl
                        refine x_acallV (As := []) (rest := [.ref (q153)]) (S1 := S1168) (n1 := n1170) (o := (fun a => some (.ref (sad g a r1169)))) (P := (fun K9 => tS 18 n1170 K9 r1169)) hC hl.1 hW hS hGs hA tj1166 rfl (show vwCl[10]? = some (RJ4, TJ4, 4) ∧ ob 10 from ⟨rfl, by decide⟩) (c_J4_toString_0e30d l g ad1156 n1155 K1157 H.size F S1153 j1166 tj1166 r1169 S1168 n1170 hz1167) (cwV 0 hts gL_errors_J4_toString_0e30d rfl rfl rfl (by decide +kernel) ⟨Nat.le_of_ble_eq_true rfl, Nat.le_of_ble_eq_true rfl⟩) rfl rfl (Nat.le_of_ble_eq_true rfl) dL_errors_354 ⟨(show 487 + 2 ≤ 648 by omega), (show 115619 + 1028 ≤ 165707 by omega)⟩ (fun ad1171 K1172 H locs hag1173 hPz1167 hW hS => ?_)
                        have g1174 := hag1173.s g1159
                        have g1175 := hag1173.se (g := g) g1159 g1160
                        have g1176 := hag1173.s g1161
                        have g1177 := hag1173.se (g := g) g1161 g1162
                        have g1178 := hag1173.t g1163
                        have g1179 := hag1173.e g1163 g1164
                        have ag1180 := (ag1165).tr hag1173
                        refine W.widen (k := 489) (n := 116647) (by omega) (by omega) ?_
                        refine W.eq (g2 := F0 m 357 ls [.ref ((sad g ad1171 r1169)), .ref (q153)]) rfl ?_
                        refine lv_iconst (v := 3) hx hb dL_errors_357 (by decide) ?_
                        refine lv_bipush (v := 68) hx hb dL_errors_358 (by decide) ?_
                        replace hf := obE hf
                        obtain ⟨z1181, hz1181, hf⟩ := hf
                        obtain ⟨r1183, S1182, n1184⟩ := z1181
                        replace hf := ltE (ltE (ltE hf r1183 rfl) S1182 rfl) n1184 rfl
                        refine x_acallS (As := [.ref (ad1171 n), .ref ((sad g ad1171 r1169)), .int 3, .int 68]) (rest := []) (S1 := S1182) (n1 := n1184) (o := (fun _ => some (.int r1183))) (P := (fun _ => True)) hC hl.1 hW hS hGs hA (c_L_wrong l g ad1171 n1170 K1172 H.size F S1168 n r1169 ((3 : Int32)) ((68 : Int32)) g1178 hPz1167 r1183 S1182 n1184 hz1181) (va_cwS 4 hts gL_errors_L_wrong rfl rfl rfl (by decide +kernel) ⟨Nat.le_of_ble_eq_true rfl, Nat.le_of_ble_eq_true rfl⟩) rfl (by rw [g1179] <;> rfl) (Nat.le_of_ble_eq_true rfl) dL_errors_360 ⟨(show 489 + 20 ≤ 648 by omega), (show 116647 + 148 ≤ 165707 by omega)⟩ (fun ad1185 K1186 H locs hag1187 hPz1181 hW hS => ?_)
                        have g1188 := hag1187.s g1174
                        have g1189 := hag1187.se (g := g) g1174 g1175
                        have g1190 := hag1187.s g1176
                        have g1191 := hag1187.se (g := g) g1176 g1177
                        have g1192 := hag1187.t g1178
                        have g1193 := hag1187.e g1178 g1179
                        have ag1194 := (ag1180).tr hag1187
                        refine W.widen (k := 509) (n := 116795) (by omega) (by omega) ?_
                        refine W.eq (g2 := F0 m 363 ls [.int r1183]) rfl ?_
                        refine lv_if_ne (tgt := 368) hx hb dL_errors_363 (by decide) (fun c1195 => ?_) (fun c1195 => ?_)
                        · replace hf := ifT c1195 hf
                          refine lv_aload_n hx hb dL_errors_368 rfl (lv_at hl 3 rfl) ?_
                          refine x_new (ci := 10) (C := RJ4) (T := TJ4) (N := 4) hC hinJ4 tyJ4_ok hW hS hA ⟨rfl, by decide, by decide⟩ (by decide +kernel) w_5 w_6 w_7 (show 509 + 1 ≤ 648 by omega) (show 116795 + 4 ≤ 165707 by omega) dL_errors_369 (fun q1196 ad1197 K1198 S1199 H eS1199 hag1201 eqq1196 ekq1196 hW hS => ?_)
                          replace hf := ltE hf S1199 eS1199
                          obtain ⟨n1200, en1200⟩ : ∃ z, z = n1184 + 1 := ⟨_, rfl⟩
                          rw [← en1200] at hag1201 hW
                          replace hf := ltE hf n1200 en1200
                          have tq1196 : n1184 < n1200 ∧ K1198 n1184 = 10 := ⟨by omega, ekq1196⟩
                          have g1202 := hag1201.s g1188
                          have g1203 := hag1201.se (g := g) g1188 g1189
                          have g1204 := hag1201.s g1190
                          have g1205 := hag1201.se (g := g) g1190 g1191
                          have g1206 := hag1201.t g1192
                          have g1207 := hag1201.e g1192 g1193
                          have ag1208 := (ag1194).tr hag1201
                          refine W.widen (k := 510) (n := 116799) (by omega) (by omega) ?_
                          refine lv_dup hx hb dL_errors_372 rfl ?_
                          replace hf := obE hf
                          obtain ⟨z1209, hz1209, hf⟩ := hf
                          obtain ⟨S1210, n1212⟩ := z1209
                          replace hf := ltE (ltE hf S1210 rfl) n1212 rfl
                          refine x_acallI (As := []) (rest := [.ref (q1196), .ref (q153)]) (S1 := S1210) (n1 := n1212) (o := (fun _ => none)) (P := (fun _ => True)) hC hl.1 hW hS hGs hA (c_J4_init_da8c8 l g ad1197 n1200 K1198 H.size F S1199 n1184 tq1196 S1210 n1212 hz1209) (cwI 0 hts gL_errors_J4_init_da8c8 rfl rfl rfl w_7 w_8 w_9 rfl (by decide +kernel) ⟨Nat.le_of_ble_eq_true rfl, Nat.le_of_ble_eq_true rfl⟩) rfl (by rw [eqq1196] <;> rfl) (Nat.le_of_ble_eq_true rfl) dL_errors_373 ⟨(show 510 + 1 ≤ 648 by omega), (show 116799 + 32 ≤ 165707 by omega)⟩ (fun ad1213 K1214 H locs hag1215 hPz1209 hW hS => ?_)
                          have g1216 := hag1215.s g1202
                          have g1217 := hag1215.se (g := g) g1202 g1203
                          have g1218 := hag1215.s g1204
                          have g1219 := hag1215.se (g := g) g1204 g1205
                          have g1220 := hag1215.t g1206
                          have g1221 := hag1215.e g1206 g1207
                          have g1222 := hag1215.t tq1196
                          have g1223 := hag1215.e tq1196 eqq1196
                          have ag1224 := (ag1208).tr hag1215
                          refine W.widen (k := 511) (n := 116831) (by omega) (by omega) ?_
                          refine W.eq (g2 := F0 m 376 ls [.ref (q1196), .ref (q153)]) rfl ?_
                          refine lv_aload_n hx hb dL_errors_376 rfl (lv_at hl 0 rfl) ?_
                          replace hf := obE hf
                          obtain ⟨z1225, hz1225, hf⟩ := hf
                          obtain ⟨r1227, S1226, n1228⟩ := z1225
                          replace hf := ltE (ltE (ltE hf r1227 rfl) S1226 rfl) n1228 rfl
                          refine x_acallV (As := [.ref (sad g ad1213 r276)]) (rest := [.ref (q153)]) (S1 := S1226) (n1 := n1228) (o := (fun a => some (va_re a r1227))) (P := (fun K9 => ∀ j, r1227 = some j → j < n1228 ∧ K9 j = 10)) hC hl.1 hW hS hGs hA g1222 rfl (show vwCl[10]? = some (RJ4, TJ4, 4) ∧ ob 10 from ⟨rfl, by decide⟩) (c_J4_append_15ec4 l g ad1213 n1212 K1214 H.size F S1210 n1184 r276 g1222 g1216 r1227 S1226 n1228 hz1225) (cwV 1 hts gL_errors_J4_append_15ec4 rfl rfl rfl (by decide +kernel) ⟨Nat.le_of_ble_eq_true rfl, Nat.le_of_ble_eq_true rfl⟩) rfl (by rw [g1223, g1217] <;> rfl) (Nat.le_of_ble_eq_true rfl) dL_errors_377 ⟨(show 511 + 1 ≤ 648 by omega), (show 116831 + 1024 ≤ 165707 by omega)⟩ (fun ad1229 K1230 H locs hag1231 hPz1225 hW hS => ?_)
                          have g1232 := hag1231.s g1216
                          have g1233 := hag1231.se (g := g) g1216 g1217
                          have g1234 := hag1231.s g1218
                          have g1235 := hag1231.se (g := g) g1218 g1219
                          have g1236 := hag1231.t g1220
                          have g1237 := hag1231.e g1220 g1221
                          have ag1238 := (ag1224).tr hag1231
                          refine W.widen (k := 512) (n := 117855) (by omega) (by omega) ?_
                          replace hf := obE hf
                          obtain ⟨j1239, qj1239, hf⟩ := hf
                          have tj1239 := hPz1225 j1239 qj1239
                          refine W.eq (g2 := F0 m 380 ls [.ref (ad1229 j1239), .ref (q153)]) (by rw [qj1239]; rfl) ?_
                          refine x_ldcM 36 (tx := "hold h user c;") hC hGM ⟨rfl, by decide⟩ dL_errors_380 ?_
                          replace hf := obE hf
                          obtain ⟨z1240, hz1240, hf⟩ := hf
                          obtain ⟨r1242, S1241, n1243⟩ := z1240
                          replace hf := ltE (ltE (ltE hf r1242 rfl) S1241 rfl) n1243 rfl
                          refine x_acallV (As := [.ref (sad g ad1229 ((36 : Nat)))]) (rest := [.ref (q153)]) (S1 := S1241) (n1 := n1243) (o := (fun a => some (va_re a r1242))) (P := (fun K9 => ∀ j, r1242 = some j → j < n1243 ∧ K9 j = 10)) hC hl.1 hW hS hGs hA tj1239 rfl (show vwCl[10]? = some (RJ4, TJ4, 4) ∧ ob 10 from ⟨rfl, by decide⟩) (c_J4_append_15ec4 l g ad1229 n1228 K1230 H.size F S1226 j1239 ((36 : Nat)) tj1239 (tS_c (by decide)) r1242 S1241 n1243 hz1240) (cwV 1 hts gL_errors_J4_append_15ec4 rfl rfl rfl (by decide +kernel) ⟨Nat.le_of_ble_eq_true rfl, Nat.le_of_ble_eq_true rfl⟩) rfl rfl (Nat.le_of_ble_eq_true rfl) dL_errors_382 ⟨(show 512 + 1 ≤ 648 by omega), (show 117855 + 1024 ≤ 165707 by omega)⟩ (fun ad1244 K1245 H locs hag1246 hPz1240 hW hS => ?_)
                          have g1247 := hag1246.s g1232
                          have g1248 := hag1246.se (g := g) g1232 g1233
                          have g1249 := hag1246.s g1234
                          have g1250 := hag1246.se (g := g) g1234 g1235
                          have g1251 := hag1246.t g1236
                          have g1252 := hag1246.e g1236 g1237
                          have ag1253 := (ag1238).tr hag1246
                          refine W.widen (k := 513) (n := 118879) (by omega) (by omega) ?_
                          replace hf := obE hf
                          obtain ⟨j1254, qj1254, hf⟩ := hf
                          have tj1254 := hPz1240 j1254 qj1254
                          refine W.eq (g2 := F0 m 385 ls [.ref (ad1244 j1254), .ref (q153)]) (by rw [qj1254]; rfl) ?_
                          replace hf := obE hf
                          obtain ⟨z1255, hz1255, hf⟩ := hf
                          obtain ⟨r1257, S1256, n1258⟩ := z1255
                          replace hf := ltE (ltE (ltE hf r1257 rfl) S1256 rfl) n1258 rfl
                          refine x_acallV (As := []) (rest := [.ref (q153)]) (S1 := S1256) (n1 := n1258) (o := (fun a => some (.ref (sad g a r1257)))) (P := (fun K9 => tS 18 n1258 K9 r1257)) hC hl.1 hW hS hGs hA tj1254 rfl (show vwCl[10]? = some (RJ4, TJ4, 4) ∧ ob 10 from ⟨rfl, by decide⟩) (c_J4_toString_0e30d l g ad1244 n1243 K1245 H.size F S1241 j1254 tj1254 r1257 S1256 n1258 hz1255) (cwV 0 hts gL_errors_J4_toString_0e30d rfl rfl rfl (by decide +kernel) ⟨Nat.le_of_ble_eq_true rfl, Nat.le_of_ble_eq_true rfl⟩) rfl rfl (Nat.le_of_ble_eq_true rfl) dL_errors_385 ⟨(show 513 + 2 ≤ 648 by omega), (show 118879 + 1028 ≤ 165707 by omega)⟩ (fun ad1259 K1260 H locs hag1261 hPz1255 hW hS => ?_)
                          have g1262 := hag1261.s g1247
                          have g1263 := hag1261.se (g := g) g1247 g1248
                          have g1264 := hag1261.s g1249
                          have g1265 := hag1261.se (g := g) g1249 g1250
                          have g1266 := hag1261.t g1251
                          have g1267 := hag1261.e g1251 g1252
                          have ag1268 := (ag1253).tr hag1261
                          refine W.widen (k := 515) (n := 119907) (by omega) (by omega) ?_
                          refine W.eq (g2 := F0 m 388 ls [.ref ((sad g ad1259 r1257)), .ref (q153)]) rfl ?_
                          refine lv_iconst (v := 3) hx hb dL_errors_388 (by decide) ?_
                          refine lv_bipush (v := 72) hx hb dL_errors_389 (by decide) ?_
                          replace hf := obE hf
                          obtain ⟨z1269, hz1269, hf⟩ := hf
                          obtain ⟨r1271, S1270, n1272⟩ := z1269
                          replace hf := ltE (ltE (ltE hf r1271 rfl) S1270 rfl) n1272 rfl
                          refine x_acallS (As := [.ref (ad1259 n), .ref ((sad g ad1259 r1257)), .int 3, .int 72]) (rest := []) (S1 := S1270) (n1 := n1272) (o := (fun _ => some (.int r1271))) (P := (fun _ => True)) hC hl.1 hW hS hGs hA (c_L_wrong l g ad1259 n1258 K1260 H.size F S1256 n r1257 ((3 : Int32)) ((72 : Int32)) g1266 hPz1255 r1271 S1270 n1272 hz1269) (va_cwS 4 hts gL_errors_L_wrong rfl rfl rfl (by decide +kernel) ⟨Nat.le_of_ble_eq_true rfl, Nat.le_of_ble_eq_true rfl⟩) rfl (by rw [g1267] <;> rfl) (Nat.le_of_ble_eq_true rfl) dL_errors_391 ⟨(show 515 + 20 ≤ 648 by omega), (show 119907 + 148 ≤ 165707 by omega)⟩ (fun ad1273 K1274 H locs hag1275 hPz1269 hW hS => ?_)
                          have g1276 := hag1275.s g1262
                          have g1277 := hag1275.se (g := g) g1262 g1263
                          have g1278 := hag1275.s g1264
                          have g1279 := hag1275.se (g := g) g1264 g1265
                          have g1280 := hag1275.t g1266
                          have g1281 := hag1275.e g1266 g1267
                          have ag1282 := (ag1268).tr hag1275
                          refine W.widen (k := 535) (n := 120055) (by omega) (by omega) ?_
                          refine W.eq (g2 := F0 m 394 ls [.int r1271]) rfl ?_
                          refine lv_if_eq (tgt := 455) hx hb dL_errors_394 (by decide) (fun c1283 => ?_) (fun c1283 => ?_)
                          · replace hf := ifT c1283 hf
                            refine lv_iconst (v := 0) hx hb dL_errors_455 (by decide) ?_
                            obtain ⟨e1, e2, e3⟩ := so3 hf
                            subst e1
                            subst e2
                            subst e3
                            refine W.widen (k := 648) (n := 165707) (by omega) (by omega) ?_
                            exact W.zret (v := 0) hx hb hr rfl (fun t ht hWm => ⟨⟨ad1273, K1274, rfl, ag1282, trivial, by rw [ht]; exact hW⟩, hS.F ht⟩) hS.2.2 dL_errors_456 hlk
                          · replace hf := ifF c1283 hf
                            refine lv_aload_n hx hb dL_errors_397 rfl (lv_at hl 3 rfl) ?_
                            refine x_new (ci := 10) (C := RJ4) (T := TJ4) (N := 4) hC hinJ4 tyJ4_ok hW hS hA ⟨rfl, by decide, by decide⟩ (by decide +kernel) w_5 w_6 w_7 (show 535 + 1 ≤ 648 by omega) (show 120055 + 4 ≤ 165707 by omega) dL_errors_398 (fun q1284 ad1285 K1286 S1287 H eS1287 hag1289 eqq1284 ekq1284 hW hS => ?_)
                            replace hf := ltE hf S1287 eS1287
                            obtain ⟨n1288, en1288⟩ : ∃ z, z = n1272 + 1 := ⟨_, rfl⟩
                            rw [← en1288] at hag1289 hW
                            replace hf := ltE hf n1288 en1288
                            have tq1284 : n1272 < n1288 ∧ K1286 n1272 = 10 := ⟨by omega, ekq1284⟩
                            have g1290 := hag1289.s g1276
                            have g1291 := hag1289.se (g := g) g1276 g1277
                            have g1292 := hag1289.s g1278
                            have g1293 := hag1289.se (g := g) g1278 g1279
                            have g1294 := hag1289.t g1280
                            have g1295 := hag1289.e g1280 g1281
                            have ag1296 := (ag1282).tr hag1289
                            refine W.widen (k := 536) (n := 120059) (by omega) (by omega) ?_
                            refine lv_dup hx hb dL_errors_401 rfl ?_
                            replace hf := obE hf
                            obtain ⟨z1297, hz1297, hf⟩ := hf
                            obtain ⟨S1298, n1300⟩ := z1297
                            replace hf := ltE (ltE hf S1298 rfl) n1300 rfl
                            refine x_acallI (As := []) (rest := [.ref (q1284), .ref (q153)]) (S1 := S1298) (n1 := n1300) (o := (fun _ => none)) (P := (fun _ => True)) hC hl.1 hW hS hGs hA (c_J4_init_da8c8 l g ad1285 n1288 K1286 H.size F S1287 n1272 tq1284 S1298 n1300 hz1297) (cwI 0 hts gL_errors_J4_init_da8c8 rfl rfl rfl w_7 w_8 w_9 rfl (by decide +kernel) ⟨Nat.le_of_ble_eq_true rfl, Nat.le_of_ble_eq_true rfl⟩) rfl (by rw [eqq1284] <;> rfl) (Nat.le_of_ble_eq_true rfl) dL_errors_402 ⟨(show 536 + 1 ≤ 648 by omega), (show 120059 + 32 ≤ 165707 by omega)⟩ (fun ad1301 K1302 H locs hag1303 hPz1297 hW hS => ?_)
                            have g1304 := hag1303.s g1290
                            have g1305 := hag1303.se (g := g) g1290 g1291
                            have g1306 := hag1303.s g1292
                            have g1307 := hag1303.se (g := g) g1292 g1293
                            have g1308 := hag1303.t g1294
                            have g1309 := hag1303.e g1294 g1295
                            have g1310 := hag1303.t tq1284
                            have g1311 := hag1303.e tq1284 eqq1284
                            have ag1312 := (ag1296).tr hag1303
                            refine W.widen (k := 537) (n := 120091) (by omega) (by omega) ?_
                            refine W.eq (g2 := F0 m 405 ls [.ref (q1284), .ref (q153)]) rfl ?_
                            refine lv_aload_n hx hb dL_errors_405 rfl (lv_at hl 0 rfl) ?_
                            replace hf := obE hf
                            obtain ⟨z1313, hz1313, hf⟩ := hf
                            obtain ⟨r1315, S1314, n1316⟩ := z1313
                            replace hf := ltE (ltE (ltE hf r1315 rfl) S1314 rfl) n1316 rfl
                            refine x_acallV (As := [.ref (sad g ad1301 r276)]) (rest := [.ref (q153)]) (S1 := S1314) (n1 := n1316) (o := (fun a => some (va_re a r1315))) (P := (fun K9 => ∀ j, r1315 = some j → j < n1316 ∧ K9 j = 10)) hC hl.1 hW hS hGs hA g1310 rfl (show vwCl[10]? = some (RJ4, TJ4, 4) ∧ ob 10 from ⟨rfl, by decide⟩) (c_J4_append_15ec4 l g ad1301 n1300 K1302 H.size F S1298 n1272 r276 g1310 g1304 r1315 S1314 n1316 hz1313) (cwV 1 hts gL_errors_J4_append_15ec4 rfl rfl rfl (by decide +kernel) ⟨Nat.le_of_ble_eq_true rfl, Nat.le_of_ble_eq_true rfl⟩) rfl (by rw [g1311, g1305] <;> rfl) (Nat.le_of_ble_eq_true rfl) dL_errors_406 ⟨(show 537 + 1 ≤ 648 by omega), (show 120091 + 1024 ≤ 165707 by omega)⟩ (fun ad1317 K1318 H locs hag1319 hPz1313 hW hS => ?_)
                            have g1320 := hag1319.s g1304
                            have g1321 := hag1319.se (g := g) g1304 g1305
                            have g1322 := hag1319.s g1306
                            have g1323 := hag1319.se (g := g) g1306 g1307
                            have g1324 := hag1319.t g1308
                            have g1325 := hag1319.e g1308 g1309
                            have ag1326 := (ag1312).tr hag1319
                            refine W.widen (k := 538) (n := 121115) (by omega) (by omega) ?_
                            replace hf := obE hf
                            obtain ⟨j1327, qj1327, hf⟩ := hf
                            have tj1327 := hPz1313 j1327 qj1327
                            refine W.eq (g2 := F0 m 409 ls [.ref (ad1317 j1327), .ref (q153)]) (by rw [qj1327]; rfl) ?_
                            refine x_ldcM 37 (tx := "hold h user b from 5 to 4;") hC hGM ⟨rfl, by decide⟩ dL_errors_409 ?_
                            replace hf := obE hf
                            obtain ⟨z1328, hz1328, hf⟩ := hf
                            obtain ⟨r1330, S1329, n1331⟩ := z1328
                            replace hf := ltE (ltE (ltE hf r1330 rfl) S1329 rfl) n1331 rfl
                            refine x_acallV (As := [.ref (sad g ad1317 ((37 : Nat)))]) (rest := [.ref (q153)]) (S1 := S1329) (n1 := n1331) (o := (fun a => some (va_re a r1330))) (P := (fun K9 => ∀ j, r1330 = some j → j < n1331 ∧ K9 j = 10)) hC hl.1 hW hS hGs hA tj1327 rfl (show vwCl[10]? = some (RJ4, TJ4, 4) ∧ ob 10 from ⟨rfl, by decide⟩) (c_J4_append_15ec4 l g ad1317 n1316 K1318 H.size F S1314 j1327 ((37 : Nat)) tj1327 (tS_c (by decide)) r1330 S1329 n1331 hz1328) (cwV 1 hts gL_errors_J4_append_15ec4 rfl rfl rfl (by decide +kernel) ⟨Nat.le_of_ble_eq_true rfl, Nat.le_of_ble_eq_true rfl⟩) rfl rfl (Nat.le_of_ble_eq_true rfl) dL_errors_411 ⟨(show 538 + 1 ≤ 648 by omega), (show 121115 + 1024 ≤ 165707 by omega)⟩ (fun ad1332 K1333 H locs hag1334 hPz1328 hW hS => ?_)
                            have g1335 := hag1334.s g1320
                            have g1336 := hag1334.se (g := g) g1320 g1321
                            have g1337 := hag1334.s g1322
                            have g1338 := hag1334.se (g := g) g1322 g1323
                            have g1339 := hag1334.t g1324
                            have g1340 := hag1334.e g1324 g1325
                            have ag1341 := (ag1326).tr hag1334
                            refine W.widen (k := 539) (n := 122139) (by omega) (by omega) ?_
                            replace hf := obE hf
                            obtain ⟨j1342, qj1342, hf⟩ := hf
                            have tj1342 := hPz1328 j1342 qj1342
                            refine W.eq (g2 := F0 m 414 ls [.ref (ad1332 j1342), .ref (q153)]) (by rw [qj1342]; rfl) ?_
                            replace hf := obE hf
                            obtain ⟨z1343, hz1343, hf⟩ := hf
                            obtain ⟨r1345, S1344, n1346⟩ := z1343
                            replace hf := ltE (ltE (ltE hf r1345 rfl) S1344 rfl) n1346 rfl
                            refine x_acallV (As := []) (rest := [.ref (q153)]) (S1 := S1344) (n1 := n1346) (o := (fun a => some (.ref (sad g a r1345)))) (P := (fun K9 => tS 18 n1346 K9 r1345)) hC hl.1 hW hS hGs hA tj1342 rfl (show vwCl[10]? = some (RJ4, TJ4, 4) ∧ ob 10 from ⟨rfl, by decide⟩) (c_J4_toString_0e30d l g ad1332 n1331 K1333 H.size F S1329 j1342 tj1342 r1345 S1344 n1346 hz1343) (cwV 0 hts gL_errors_J4_toString_0e30d rfl rfl rfl (by decide +kernel) ⟨Nat.le_of_ble_eq_true rfl, Nat.le_of_ble_eq_true rfl⟩) rfl rfl (Nat.le_of_ble_eq_true rfl) dL_errors_414 ⟨(show 539 + 2 ≤ 648 by omega), (show 122139 + 1028 ≤ 165707 by omega)⟩ (fun ad1347 K1348 H locs hag1349 hPz1343 hW hS => ?_)
                            have g1350 := hag1349.s g1335
                            have g1351 := hag1349.se (g := g) g1335 g1336
                            have g1352 := hag1349.s g1337
                            have g1353 := hag1349.se (g := g) g1337 g1338
                            have g1354 := hag1349.t g1339
                            have g1355 := hag1349.e g1339 g1340
                            have ag1356 := (ag1341).tr hag1349
                            refine W.widen (k := 541) (n := 123167) (by omega) (by omega) ?_
                            refine W.eq (g2 := F0 m 417 ls [.ref ((sad g ad1347 r1345)), .ref (q153)]) rfl ?_
                            refine lv_iconst (v := 2) hx hb dL_errors_417 (by decide) ?_
                            refine lv_bipush (v := 84) hx hb dL_errors_418 (by decide) ?_
                            replace hf := obE hf
                            obtain ⟨z1357, hz1357, hf⟩ := hf
                            obtain ⟨r1359, S1358, n1360⟩ := z1357
                            replace hf := ltE (ltE (ltE hf r1359 rfl) S1358 rfl) n1360 rfl
                            refine x_acallS (As := [.ref (ad1347 n), .ref ((sad g ad1347 r1345)), .int 2, .int 84]) (rest := []) (S1 := S1358) (n1 := n1360) (o := (fun _ => some (.int r1359))) (P := (fun _ => True)) hC hl.1 hW hS hGs hA (c_L_wrong l g ad1347 n1346 K1348 H.size F S1344 n r1345 ((2 : Int32)) ((84 : Int32)) g1354 hPz1343 r1359 S1358 n1360 hz1357) (va_cwS 4 hts gL_errors_L_wrong rfl rfl rfl (by decide +kernel) ⟨Nat.le_of_ble_eq_true rfl, Nat.le_of_ble_eq_true rfl⟩) rfl (by rw [g1355] <;> rfl) (Nat.le_of_ble_eq_true rfl) dL_errors_420 ⟨(show 541 + 20 ≤ 648 by omega), (show 123167 + 148 ≤ 165707 by omega)⟩ (fun ad1361 K1362 H locs hag1363 hPz1357 hW hS => ?_)
                            have g1364 := hag1363.s g1350
                            have g1365 := hag1363.se (g := g) g1350 g1351
                            have g1366 := hag1363.s g1352
                            have g1367 := hag1363.se (g := g) g1352 g1353
                            have g1368 := hag1363.t g1354
                            have g1369 := hag1363.e g1354 g1355
                            have ag1370 := (ag1356).tr hag1363
                            refine W.widen (k := 561) (n := 123315) (by omega) (by omega) ?_
                            refine W.eq (g2 := F0 m 423 ls [.int r1359]) rfl ?_
                            refine lv_if_eq (tgt := 455) hx hb dL_errors_423 (by decide) (fun c1371 => ?_) (fun c1371 => ?_)
                            · replace hf := ifT c1371 hf
                              refine lv_iconst (v := 0) hx hb dL_errors_455 (by decide) ?_
                              obtain ⟨e1, e2, e3⟩ := so3 hf
                              subst e1
                              subst e2
                              subst e3
                              refine W.widen (k := 648) (n := 165707) (by omega) (by omega) ?_
                              exact W.zret (v := 0) hx hb hr rfl (fun t ht hWm => ⟨⟨ad1361, K1362, rfl, ag1370, trivial, by rw [ht]; exact hW⟩, hS.F ht⟩) hS.2.2 dL_errors_456 hlk
                            · replace hf := ifF c1371 hf
                              refine lv_aload_n hx hb dL_errors_426 rfl (lv_at hl 3 rfl) ?_
                              refine x_new (ci := 10) (C := RJ4) (T := TJ4) (N := 4) hC hinJ4 tyJ4_ok hW hS hA ⟨rfl, by decide, by decide⟩ (by decide +kernel) w_5 w_6 w_7 (show 561 + 1 ≤ 648 by omega) (show 123315 + 4 ≤ 165707 by omega) dL_errors_427 (fun q1372 ad1373 K1374 S1375 H eS1375 hag1377 eqq1372 ekq1372 hW hS => ?_)
                              replace hf := ltE hf S1375 eS1375
                              obtain ⟨n1376, en1376⟩ : ∃ z, z = n1360 + 1 := ⟨_, rfl⟩
                              rw [← en1376] at hag1377 hW
                              replace hf := ltE hf n1376 en1376
                              have tq1372 : n1360 < n1376 ∧ K1374 n1360 = 10 := ⟨by omega, ekq1372⟩
                              have g1378 := hag1377.s g1364
                              have g1379 := hag1377.se (g := g) g1364 g1365
                              have g1380 := hag1377.s g1366
                              have g1381 := hag1377.se (g := g) g1366 g1367
                              have g1382 := hag1377.t g1368
                              have g1383 := hag1377.e g1368 g1369
                              have ag1384 := (ag1370).tr hag1377
                              refine W.widen (k := 562) (n := 123319) (by omega) (by omega) ?_
                              refine lv_dup hx hb dL_errors_430 rfl ?_
                              replace hf := obE hf
                              obtain ⟨z1385, hz1385, hf⟩ := hf
                              obtain ⟨S1386, n1388⟩ := z1385
                              replace hf := ltE (ltE hf S1386 rfl) n1388 rfl
                              refine x_acallI (As := []) (rest := [.ref (q1372), .ref (q153)]) (S1 := S1386) (n1 := n1388) (o := (fun _ => none)) (P := (fun _ => True)) hC hl.1 hW hS hGs hA (c_J4_init_da8c8 l g ad1373 n1376 K1374 H.size F S1375 n1360 tq1372 S1386 n1388 hz1385) (cwI 0 hts gL_errors_J4_init_da8c8 rfl rfl rfl w_7 w_8 w_9 rfl (by decide +kernel) ⟨Nat.le_of_ble_eq_true rfl, Nat.le_of_ble_eq_true rfl⟩) rfl (by rw [eqq1372] <;> rfl) (Nat.le_of_ble_eq_true rfl) dL_errors_431 ⟨(show 562 + 1 ≤ 648 by omega), (show 123319 + 32 ≤ 165707 by omega)⟩ (fun ad1389 K1390 H locs hag1391 hPz1385 hW hS => ?_)
                              have g1392 := hag1391.s g1378
                              have g1393 := hag1391.se (g := g) g1378 g1379
                              have g1394 := hag1391.s g1380
                              have g1395 := hag1391.se (g := g) g1380 g1381
                              have g1396 := hag1391.t g1382
                              have g1397 := hag1391.e g1382 g1383
                              have g1398 := hag1391.t tq1372
                              have g1399 := hag1391.e tq1372 eqq1372
                              have ag1400 := (ag1384).tr hag1391
                              refine W.widen (k := 563) (n := 123351) (by omega) (by omega) ?_
                              refine W.eq (g2 := F0 m 434 ls [.ref (q1372), .ref (q153)]) rfl ?_
                              refine lv_aload_n hx hb dL_errors_434 rfl (lv_at hl 0 rfl) ?_
                              replace hf := obE hf
                              obtain ⟨z1401, hz1401, hf⟩ := hf
                              obtain ⟨r1403, S1402, n1404⟩ := z1401
                              replace hf := ltE (ltE (ltE hf r1403 rfl) S1402 rfl) n1404 rfl
                              refine x_acallV (As := [.ref (sad g ad1389 r276)]) (rest := [.ref (q153)]) (S1 := S1402) (n1 := n1404) (o := (fun a => some (va_re a r1403))) (P := (fun K9 => ∀ j, r1403 = some j → j < n1404 ∧ K9 j = 10)) hC hl.1 hW hS hGs hA g1398 rfl (show vwCl[10]? = some (RJ4, TJ4, 4) ∧ ob 10 from ⟨rfl, by decide⟩) (c_J4_append_15ec4 l g ad1389 n1388 K1390 H.size F S1386 n1360 r276 g1398 g1392 r1403 S1402 n1404 hz1401) (cwV 1 hts gL_errors_J4_append_15ec4 rfl rfl rfl (by decide +kernel) ⟨Nat.le_of_ble_eq_true rfl, Nat.le_of_ble_eq_true rfl⟩) rfl (by rw [g1399, g1393] <;> rfl) (Nat.le_of_ble_eq_true rfl) dL_errors_435 ⟨(show 563 + 1 ≤ 648 by omega), (show 123351 + 1024 ≤ 165707 by omega)⟩ (fun ad1405 K1406 H locs hag1407 hPz1401 hW hS => ?_)
                              have g1408 := hag1407.s g1392
                              have g1409 := hag1407.se (g := g) g1392 g1393
                              have g1410 := hag1407.s g1394
                              have g1411 := hag1407.se (g := g) g1394 g1395
                              have g1412 := hag1407.t g1396
                              have g1413 := hag1407.e g1396 g1397
                              have ag1414 := (ag1400).tr hag1407
                              refine W.widen (k := 564) (n := 124375) (by omega) (by omega) ?_
                              replace hf := obE hf
                              obtain ⟨j1415, qj1415, hf⟩ := hf
                              have tj1415 := hPz1401 j1415 qj1415
                              refine W.eq (g2 := F0 m 438 ls [.ref (ad1405 j1415), .ref (q153)]) (by rw [qj1415]; rfl) ?_
                              refine x_ldcM 38 (tx := "hold h user b word abcdefghijk;") hC hGM ⟨rfl, by decide⟩ dL_errors_438 ?_
                              replace hf := obE hf
                              obtain ⟨z1416, hz1416, hf⟩ := hf
                              obtain ⟨r1418, S1417, n1419⟩ := z1416
                              replace hf := ltE (ltE (ltE hf r1418 rfl) S1417 rfl) n1419 rfl
                              refine x_acallV (As := [.ref (sad g ad1405 ((38 : Nat)))]) (rest := [.ref (q153)]) (S1 := S1417) (n1 := n1419) (o := (fun a => some (va_re a r1418))) (P := (fun K9 => ∀ j, r1418 = some j → j < n1419 ∧ K9 j = 10)) hC hl.1 hW hS hGs hA tj1415 rfl (show vwCl[10]? = some (RJ4, TJ4, 4) ∧ ob 10 from ⟨rfl, by decide⟩) (c_J4_append_15ec4 l g ad1405 n1404 K1406 H.size F S1402 j1415 ((38 : Nat)) tj1415 (tS_c (by decide)) r1418 S1417 n1419 hz1416) (cwV 1 hts gL_errors_J4_append_15ec4 rfl rfl rfl (by decide +kernel) ⟨Nat.le_of_ble_eq_true rfl, Nat.le_of_ble_eq_true rfl⟩) rfl rfl (Nat.le_of_ble_eq_true rfl) dL_errors_440 ⟨(show 564 + 1 ≤ 648 by omega), (show 124375 + 1024 ≤ 165707 by omega)⟩ (fun ad1420 K1421 H locs hag1422 hPz1416 hW hS => ?_)
                              have g1423 := hag1422.s g1408
                              have g1424 := hag1422.se (g := g) g1408 g1409
                              have g1425 := hag1422.s g1410
                              have g1426 := hag1422.se (g := g) g1410 g1411
                              have g1427 := hag1422.t g1412
                              have g1428 := hag1422.e g1412 g1413
                              have ag1429 := (ag1414).tr hag1422
                              refine W.widen (k := 565) (n := 125399) (by omega) (by omega) ?_
                              replace hf := obE hf
                              obtain ⟨j1430, qj1430, hf⟩ := hf
                              have tj1430 := hPz1416 j1430 qj1430
                              refine W.eq (g2 := F0 m 443 ls [.ref (ad1420 j1430), .ref (q153)]) (by rw [qj1430]; rfl) ?_
                              replace hf := obE hf
                              obtain ⟨z1431, hz1431, hf⟩ := hf
                              obtain ⟨r1433, S1432, n1434⟩ := z1431
                              replace hf := ltE (ltE (ltE hf r1433 rfl) S1432 rfl) n1434 rfl
                              refine x_acallV (As := []) (rest := [.ref (q153)]) (S1 := S1432) (n1 := n1434) (o := (fun a => some (.ref (sad g a r1433)))) (P := (fun K9 => tS 18 n1434 K9 r1433)) hC hl.1 hW hS hGs hA tj1430 rfl (show vwCl[10]? = some (RJ4, TJ4, 4) ∧ ob 10 from ⟨rfl, by decide⟩) (c_J4_toString_0e30d l g ad1420 n1419 K1421 H.size F S1417 j1430 tj1430 r1433 S1432 n1434 hz1431) (cwV 0 hts gL_errors_J4_toString_0e30d rfl rfl rfl (by decide +kernel) ⟨Nat.le_of_ble_eq_true rfl, Nat.le_of_ble_eq_true rfl⟩) rfl rfl (Nat.le_of_ble_eq_true rfl) dL_errors_443 ⟨(show 565 + 2 ≤ 648 by omega), (show 125399 + 1028 ≤ 165707 by omega)⟩ (fun ad1435 K1436 H locs hag1437 hPz1431 hW hS => ?_)
                              have g1438 := hag1437.s g1423
                              have g1439 := hag1437.se (g := g) g1423 g1424
                              have g1440 := hag1437.s g1425
                              have g1441 := hag1437.se (g := g) g1425 g1426
                              have g1442 := hag1437.t g1427
                              have g1443 := hag1437.e g1427 g1428
                              have ag1444 := (ag1429).tr hag1437
                              refine W.widen (k := 567) (n := 126427) (by omega) (by omega) ?_
                              refine W.eq (g2 := F0 m 446 ls [.ref ((sad g ad1435 r1433)), .ref (q153)]) rfl ?_
                              refine lv_iconst (v := 1) hx hb dL_errors_446 (by decide) ?_
                              refine lv_bipush (v := 79) hx hb dL_errors_447 (by decide) ?_
                              replace hf := obE hf
                              obtain ⟨z1445, hz1445, hf⟩ := hf
                              obtain ⟨r1447, S1446, n1448⟩ := z1445
                              replace hf := ltE (ltE (ltE hf r1447 rfl) S1446 rfl) n1448 rfl
                              refine x_acallS (As := [.ref (ad1435 n), .ref ((sad g ad1435 r1433)), .int 1, .int 79]) (rest := []) (S1 := S1446) (n1 := n1448) (o := (fun _ => some (.int r1447))) (P := (fun _ => True)) hC hl.1 hW hS hGs hA (c_L_wrong l g ad1435 n1434 K1436 H.size F S1432 n r1433 ((1 : Int32)) ((79 : Int32)) g1442 hPz1431 r1447 S1446 n1448 hz1445) (va_cwS 4 hts gL_errors_L_wrong rfl rfl rfl (by decide +kernel) ⟨Nat.le_of_ble_eq_true rfl, Nat.le_of_ble_eq_true rfl⟩) rfl (by rw [g1443] <;> rfl) (Nat.le_of_ble_eq_true rfl) dL_errors_449 ⟨(show 567 + 20 ≤ 648 by omega), (show 126427 + 148 ≤ 165707 by omega)⟩ (fun ad1449 K1450 H locs hag1451 hPz1445 hW hS => ?_)
                              have g1452 := hag1451.s g1438
                              have g1453 := hag1451.se (g := g) g1438 g1439
                              have g1454 := hag1451.s g1440
                              have g1455 := hag1451.se (g := g) g1440 g1441
                              have g1456 := hag1451.t g1442
                              have g1457 := hag1451.e g1442 g1443
                              have ag1458 := (ag1444).tr hag1451
                              refine W.widen (k := 587) (n := 126575) (by omega) (by omega) ?_
                              refine W.eq (g2 := F0 m 452 ls [.int r1447]) rfl ?_
                              refine lv_if_ne (tgt := 457) hx hb dL_errors_452 (by decide) (fun c1459 => ?_) (fun c1459 => ?_)
                              · replace hf := ifT c1459 hf
                                refine x_new (ci := 10) (C := RJ4) (T := TJ4) (N := 4) hC hinJ4 tyJ4_ok hW hS hA ⟨rfl, by decide, by decide⟩ (by decide +kernel) w_5 w_6 w_7 (show 587 + 1 ≤ 648 by omega) (show 126575 + 4 ≤ 165707 by omega) dL_errors_457 (fun q1460 ad1461 K1462 S1463 H eS1463 hag1465 eqq1460 ekq1460 hW hS => ?_)
                                replace hf := ltE hf S1463 eS1463
                                obtain ⟨n1464, en1464⟩ : ∃ z, z = n1448 + 1 := ⟨_, rfl⟩
                                rw [← en1464] at hag1465 hW
                                replace hf := ltE hf n1464 en1464
                                have tq1460 : n1448 < n1464 ∧ K1462 n1448 = 10 := ⟨by omega, ekq1460⟩
                                have g1466 := hag1465.s g1452
                                have g1467 := hag1465.se (g := g) g1452 g1453
                                have g1468 := hag1465.s g1454
                                have g1469 := hag1465.se (g := g) g1454 g1455
                                have g1470 := hag1465.t g1456
                                have g1471 := hag1465.e g1456 g1457
                                have ag1472 := (ag1458).tr hag1465
                                refine W.widen (k := 588) (n := 126579) (by omega) (by omega) ?_
                                refine lv_dup hx hb dL_errors_460 rfl ?_
                                refine lv_aload_n hx hb dL_errors_461 rfl (lv_at hl 2 rfl) ?_
                                replace hf := obE hf
                                obtain ⟨z1473, hz1473, hf⟩ := hf
                                obtain ⟨S1474, n1476⟩ := z1473
                                replace hf := ltE (ltE hf S1474 rfl) n1476 rfl
                                refine x_acallI (As := [.ref (sad g ad1461 ((21 : Nat)))]) (rest := [.ref (q1460)]) (S1 := S1474) (n1 := n1476) (o := (fun _ => none)) (P := (fun _ => True)) hC hl.1 hW hS hGs hA (c_J4_init_a7421 l g ad1461 n1464 K1462 H.size F S1463 n1448 ((21 : Nat)) tq1460 (tS_c (by decide)) S1474 n1476 hz1473) (cwI 1 hts gL_errors_J4_init_a7421 rfl rfl rfl w_7 w_10 w_11 rfl (by decide +kernel) ⟨Nat.le_of_ble_eq_true rfl, Nat.le_of_ble_eq_true rfl⟩) rfl (by rw [eqq1460] <;> rfl) (Nat.le_of_ble_eq_true rfl) dL_errors_462 ⟨(show 588 + 2 ≤ 648 by omega), (show 126579 + 1088 ≤ 165707 by omega)⟩ (fun ad1477 K1478 H locs hag1479 hPz1473 hW hS => ?_)
                                have g1480 := hag1479.s g1466
                                have g1481 := hag1479.se (g := g) g1466 g1467
                                have g1482 := hag1479.s g1468
                                have g1483 := hag1479.se (g := g) g1468 g1469
                                have g1484 := hag1479.t g1470
                                have g1485 := hag1479.e g1470 g1471
                                have g1486 := hag1479.t tq1460
                                have g1487 := hag1479.e tq1460 eqq1460
                                have ag1488 := (ag1472).tr hag1479
                                refine W.widen (k := 590) (n := 127667) (by omega) (by omega) ?_
                                refine W.eq (g2 := F0 m 465 ls [.ref (q1460)]) rfl ?_
                                refine lv_astore (lv' := [(4, .ref (q1460)), (3, .ref ((sad g ad278 r276))), (2, .ref ((sad g ad217 r215))), (1, .ref ((gen g (100 + 21)))), (0, .ref (q153))]) hx hb dL_errors_465 hl (by decide) rfl (fun ls hl => ?_)
                                refine lv_iconst (v := 0) hx hb dL_errors_467 (by decide) ?_
                                refine lv_istore (lv' := [(5, .int 0), (4, .ref (q1460)), (3, .ref ((sad g ad278 r276))), (2, .ref ((sad g ad217 r215))), (1, .ref ((gen g (100 + 21)))), (0, .ref (q153))]) hx hb dL_errors_468 hl (by decide) rfl (fun ls hl => ?_)
                                exact L470 12 ad1477 K1478 n1476 ag1488 590 127667 (by omega) (by omega) S1474 n n1448 0 g1484 g1486 _ _ _ hf hW hS (lv_sub hl [5, 1, 0] (by rw [g1485, g1487] <;> rfl))
                              · replace hf := ifF (fun q => q c1459) hf
                                refine lv_iconst (v := 0) hx hb dL_errors_455 (by decide) ?_
                                obtain ⟨e1, e2, e3⟩ := so3 hf
                                subst e1
                                subst e2
                                subst e3
                                refine W.widen (k := 648) (n := 165707) (by omega) (by omega) ?_
                                exact W.zret (v := 0) hx hb hr rfl (fun t ht hWm => ⟨⟨ad1449, K1450, rfl, ag1458, trivial, by rw [ht]; exact hW⟩, hS.F ht⟩) hS.2.2 dL_errors_456 hlk
                        · replace hf := ifF (fun q => q c1195) hf
                          refine lv_iconst (v := 0) hx hb dL_errors_366 (by decide) ?_
                          obtain ⟨e1, e2, e3⟩ := so3 hf
                          subst e1
                          subst e2
                          subst e3
                          refine W.widen (k := 648) (n := 165707) (by omega) (by omega) ?_
                          exact W.zret (v := 0) hx hb hr rfl (fun t ht hWm => ⟨⟨ad1185, K1186, rfl, ag1194, trivial, by rw [ht]; exact hW⟩, hS.F ht⟩) hS.2.2 dL_errors_367 hlk
            · replace hf := ifF (fun q => q c667) hf
              refine lv_iconst (v := 0) hx hb dL_errors_190 (by decide) ?_
              obtain ⟨e1, e2, e3⟩ := so3 hf
              subst e1
              subst e2
              subst e3
              refine W.widen (k := 648) (n := 165707) (by omega) (by omega) ?_
              exact W.zret (v := 0) hx hb hr rfl (fun t ht hWm => ⟨⟨ad657, K658, rfl, ag666, trivial, by rw [ht]; exact hW⟩, hS.F ht⟩) hS.2.2 dL_errors_191 hlk
