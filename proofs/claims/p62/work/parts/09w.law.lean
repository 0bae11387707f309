theorem dA0 {ad : Nat → Nat} {n sz q : Nat} (hn : n = 0) (h : dA ad n sz q) : sz ≤ q := h.elim (fun ⟨i, hi, _⟩ => absurd hi (by omega)) id
set_option maxHeartbeats 8000000 in
set_option maxRecDepth 100000 in
theorem c_law {p : Program} {e : Env} {s : State} {m : MethodId} {below : List Frame} {meth : Method} {c : Code} (l : Launch) (g : GP) (ad : Nat → Nat) (n : Nat) (K : Nat → Nat) (F : Nat) (S0 : St) (p0 : XS) (tp0 : p0 = gX g) (hn : n = 0) (S9 : St) (n9 : Nat) (hf : f_L_law F S0 n p0 = some (1, S9, n9)) (hC : Cx g p s m #[.ref (gen g 98)] c cL_law RL wsL_law 14) (hGs : GF g (dA ad n s.heap.size) s s.heap) (hW : Wb g ad n K S0 (dA ad n s.heap.size) s.heap) (hr : meth.sig.returnType = ret) (hlk : meth.locks = false) : W p l e room_1 s m #[Value.ref (gen g 98)] below meth c s.heap [] 0 0 (lw_Z below #[Value.ref (gen g 98)] s) (entryFrame m ([Value.ref (gen g 98)] : List Value).toArray 14) := by
  have hx := hC.1
  have hb := hC.2.1
  have hml := hC.2.2.1
  have hown : s.vm.findClass RL = some m.cls := hC.2.2.2.1
  have hts := hC.2.2.2.2.1
  have hK := hC.2.2.2.2.2
  have hA : ∀ q : Nat, s.heap.size ≤ q → dA ad n s.heap.size q := fun q h => Or.inr h
  have hS : va_S (dA ad n s.heap.size) s.heap s.heap [] := va_S.rf
  have hl := lv_entry ([.ref (gen g 98)]) (n := 14) (Nat.le_of_ble_eq_true rfl)
  rw [lg_entry_eq]
  generalize (lg_sl ([.ref (gen g 98)]) ++ List.replicate (14 - (lg_sl ([.ref (gen g 98)])).length) Slot.unset).toArray = ls at hl ⊢
  have hl : lv_has ls 14 [(0, .ref (gen g 98))] := hl
  have hinX10 : ∀ w ∈ wsX100, w ∈ wsL_law := inlX10
  have w_0 := hts (.constantDouble RL 321 (4562254508917369340)) (by decide +kernel)
  have w_1 := hts (.constantLong RL 297 (1099511628211)) (by decide +kernel)
  have w_2 := hts (.constantLong RL 295 (-3750763034362895579)) (by decide +kernel)
  have w_3 := hts (.classLink RL 25 RX10) (by decide +kernel)
  have w_4 := hts (.instantiable RX10 11) (by decide +kernel)
  have w_5 := hts (.initialized RX10) (by decide +kernel)
  have w_6 := hts (.methodLink RL 190 yX10_init) (by decide +kernel)
  have w_7 := hts (.instanceMethod yX10_init) (by decide +kernel)
  have w_8 := hts (.arrayClass .int) (by decide +kernel)
  have hGE := hGs.2.2.2.1
  have hGM := hGs.2.2.2.2
  have L705 : ∀ (fu705 : Nat) (adL KL : Nat → Nat) (nL : Nat) (hagL : Ag ad K n adL KL nL) (cs ss : Nat) (hcs : cs + (0) ≤ 1315) (hss : ss + (0) ≤ 637514) (S0 : St) (v0 : XS) (v1 : Nat) (v3 : Nat) (v4 : Nat) (v6 : Int32) (v9 : UInt64) (v11 : Int32) (v12 : Int32) (tv0 : v0 = gX g) (tv1 : v1 < nL ∧ KL v1 = 9) (tv3 : v3 < nL ∧ KL v3 = 12) (tv4 : v4 < nL ∧ KL v4 = 12) (H : Heap) (locs : List Loc) (ls : Array Slot), f_L_law_L705 F fu705 S0 nL v0 v1 v3 v4 v6 v9 v11 v12 = some (1, S9, n9) → Wb g adL nL KL S0 (dA ad n s.heap.size) H → va_S (dA ad n s.heap.size) s.heap H locs → lv_has ls 14 [(0, .ref (gen g 98)), (1, .ref (adL v1)), (3, .ref (adL v3)), (4, .ref (adL v4)), (6, .int v6), (9, .double (v9)), (11, .int v11), (12, .int v12)] → W p l e room_1 s m #[Value.ref (gen g 98)] below meth c H locs cs ss (lw_Z below #[Value.ref (gen g 98)] s) (F0 m 705 ls []) := by
    intro fu705
    induction fu705 with
    | zero =>
      intro adL KL nL hagL cs ss hcs hss S0 v0 v1 v3 v4 v6 v9 v11 v12 tv0 tv1 tv3 tv4 H locs ls hf
      cases hf
    | succ fu705 ih705 =>
      intro adL KL nL hagL cs ss hcs hss S0 v0 v1 v3 v4 v6 v9 v11 v12 tv0 tv1 tv3 tv4 H locs ls hf hW hS hl
      unfold f_L_law_L705 at hf
      refine lv_iload hx hb dL_law_705 (lv_at hl 7 rfl) ?_
      refine lv_aload_n hx hb dL_law_707 rfl (lv_at hl 0 rfl) ?_
      replace hf := obE hf
      obtain ⟨z46, hz46, hf⟩ := hf
      obtain ⟨r48, S47⟩ := z46
      replace hf := ltE (ltE hf r48 rfl) S47 rfl
      refine x_callS (As := [.ref (gen g 98)]) (rest := [.int v12]) (o := (some (.int r48))) (S1 := S47) hC hl.1 hW hS hGs hA (c_L_users l g adL nL KL H.size F S0 v0 tv0 r48 S47 hz46) (va_cwS 1 hts gL_law_L_users rfl rfl rfl (by decide +kernel) ⟨Nat.le_of_ble_eq_true rfl, Nat.le_of_ble_eq_true rfl⟩) rfl rfl (Nat.le_of_ble_eq_true rfl) dL_law_708 ⟨show cs ≤ room_1.cells from rc_le (by omega), show ss ≤ room_1.slots from rs_le (by omega)⟩ (fun H locs hPz46 hW hS => ?_)
      refine W.eq (g2 := F0 m 711 ls [.int r48, .int v12]) rfl ?_
      refine lv_icmp_ge (tgt := 790) hx hb dL_law_711 (by decide) (fun c50 => ?_) (fun c50 => ?_)
      · replace hf := ifT c50 hf
        refine lv_aload_n hx hb dL_law_790 rfl (lv_at hl 1 rfl) ?_
        replace hf := obE hf
        obtain ⟨z51, hz51, hf⟩ := hf
        obtain ⟨r53, S52⟩ := z51
        replace hf := ltE (ltE hf r53 rfl) S52 rfl
        refine x_callV (As := []) (rest := []) (o := (some (.int r53))) (S1 := S52) hC hl.1 hW hS hGs hA tv1 rfl (show vwCl[9]? = some (RX10, TX10, 11) ∧ ob 9 from ⟨rfl, by decide⟩) (c_X10_logicalBytes l g adL nL KL H.size F S47 v1 tv1 r53 S52 hz51) (cwV 0 hts gL_law_X10_logicalBytes rfl rfl rfl (by decide +kernel) ⟨Nat.le_of_ble_eq_true rfl, Nat.le_of_ble_eq_true rfl⟩) rfl rfl (Nat.le_of_ble_eq_true rfl) dL_law_791 ⟨show cs ≤ room_1.cells from rc_le (by omega), show ss ≤ room_1.slots from rs_le (by omega)⟩ (fun H locs hPz51 hW hS => ?_)
        refine W.eq (g2 := F0 m 794 ls [.int r53]) rfl ?_
        refine lv_iload hx hb dL_law_794 (lv_at hl 6 rfl) ?_
        refine lv_icmp_ne (tgt := 829) hx hb dL_law_796 (by decide) (fun c55 => ?_) (fun c55 => ?_)
        · replace hf := ifT c55 hf
          refine lv_iconst (v := 0) hx hb dL_law_829 (by decide) ?_
          exact absurd (Prod.mk.inj (Option.some.inj hf)).1 (by decide)
        · replace hf := ifF (fun q => q c55) hf
          refine lv_dload hx hb dL_law_799 (lv_at hl 5 rfl) ?_
          refine lv_iload hx hb dL_law_801 (lv_at hl 4 rfl) ?_
          refine lv_i2d hx hb dL_law_803 ?_
          refine lv_ldc2d (v := 4562254508917369340) hx hb hown w_0 dL_law_804 ?_
          replace hf := cknE hf
          obtain ⟨h56, hf⟩ := hf
          refine lv_dsub hx hb dL_law_807 h56 ?_
          refine lv_dcmp hx hb dL_law_808 ?_
          refine lv_if_le (tgt := 829) hx hb dL_law_809 (by decide) (fun c57 => ?_) (fun c57 => ?_)
          · replace hf := ifT c57 hf
            refine lv_iconst (v := 0) hx hb dL_law_829 (by decide) ?_
            exact absurd (Prod.mk.inj (Option.some.inj hf)).1 (by decide)
          · replace hf := ifF c57 hf
            refine lv_dload hx hb dL_law_812 (lv_at hl 5 rfl) ?_
            refine lv_iload hx hb dL_law_814 (lv_at hl 4 rfl) ?_
            refine lv_i2d hx hb dL_law_816 ?_
            refine lv_ldc2d (v := 4562254508917369340) hx hb hown w_0 dL_law_817 ?_
            replace hf := cknE hf
            obtain ⟨h58, hf⟩ := hf
            refine lv_dadd hx hb dL_law_820 h58 ?_
            refine lv_dcmp hx hb dL_law_821 ?_
            refine lv_if_ge (tgt := 829) hx hb dL_law_822 (by decide) (fun c59 => ?_) (fun c59 => ?_)
            · replace hf := ifT c59 hf
              refine lv_iconst (v := 0) hx hb dL_law_829 (by decide) ?_
              exact absurd (Prod.mk.inj (Option.some.inj hf)).1 (by decide)
            · replace hf := ifF c59 hf
              refine lv_iconst (v := 1) hx hb dL_law_825 (by decide) ?_
              refine lv_goto (tgt := 830) hx hb dL_law_826 (by decide) ?_
              refine va_forget (fun q hq => dA0 hn (hS.2.2 q hq)) ?_
              refine W.widen (k := room_1.cells) (n := room_1.slots) (rc_le (by omega)) (rs_le (by omega)) ?_
              exact W.base (lw_ret (Drawn.sameBut.refl s.drawn lw_cs) hx hb hr hlk dL_law_830)
      · replace hf := ifF c50 hf
        refine lv_aload_n hx hb dL_law_714 rfl (lv_at hl 1 rfl) ?_
        refine x_ldcM 15 (tx := "ab") hC hGM ⟨rfl, by decide⟩ dL_law_715 ?_
        replace hf := obE hf
        obtain ⟨S61, hz60, hf⟩ := hf
        refine x_callS (As := [.ref (adL v1), .ref (sad g adL ((15 : Nat)))]) (rest := []) (o := none) (S1 := S61) hC hl.1 hW hS hGs hA (c_L_feed l g adL nL KL H.size F S47 v1 ((15 : Nat)) tv1 (tS_c (by decide)) S61 hz60) (va_cwS 2 hts gL_law_L_feed rfl rfl rfl (by decide +kernel) ⟨Nat.le_of_ble_eq_true rfl, Nat.le_of_ble_eq_true rfl⟩) rfl rfl (Nat.le_of_ble_eq_true rfl) dL_law_717 ⟨show cs ≤ room_1.cells from rc_le (by omega), show ss ≤ room_1.slots from rs_le (by omega)⟩ (fun H locs hPz60 hW hS => ?_)
        refine W.eq (g2 := F0 m 720 ls []) rfl ?_
        refine lv_aload_n hx hb dL_law_720 rfl (lv_at hl 1 rfl) ?_
        refine lv_iload hx hb dL_law_721 (lv_at hl 7 rfl) ?_
        replace hf := obE hf
        obtain ⟨z64, hz64, hf⟩ := hf
        obtain ⟨oz64, S65⟩ := z64
        replace hf := ltE hf S65 rfl
        cases oz64 with
        | inl x =>
          replace hf := smL rfl hf
          cases hf
        | inr r66 =>
          replace hf := smR rfl hf
          refine x_callV (As := [.int v12]) (rest := []) (o := (some (.int r66))) (S1 := S65) (P := True) hC hl.1 hW hS hGs hA tv1 rfl (show vwCl[9]? = some (RX10, TX10, 11) ∧ ob 9 from ⟨rfl, by decide⟩) (c_X10_usage l g adL nL KL H.size F S61 v1 v12 tv1 r66 S65 hz64) (cwV 1 hts gL_law_X10_usage rfl rfl rfl (by decide +kernel) ⟨Nat.le_of_ble_eq_true rfl, Nat.le_of_ble_eq_true rfl⟩) rfl rfl (Nat.le_of_ble_eq_true rfl) dL_law_723 ⟨show cs ≤ room_1.cells from rc_le (by omega), show ss ≤ room_1.slots from rs_le (by omega)⟩ (fun H locs hPz64 hW hS => ?_)
          refine W.eq (g2 := F0 m 726 ls [.int r66]) rfl ?_
          refine lv_aload_n hx hb dL_law_726 rfl (lv_at hl 2 rfl) ?_
          refine lv_iload hx hb dL_law_727 (lv_at hl 7 rfl) ?_
          replace hf := ckiE hf
          obtain ⟨h68, hf⟩ := hf
          refine x_iald hC hW tv3 rfl rfl h68 dL_law_729 ?_
          refine lv_icmp_ne (tgt := 762) hx hb dL_law_730 (by decide) (fun c69 => ?_) (fun c69 => ?_)
          · replace hf := ifT c69 hf
            refine lv_iconst (v := 0) hx hb dL_law_762 (by decide) ?_
            exact absurd (Prod.mk.inj (Option.some.inj hf)).1 (by decide)
          · replace hf := ifF (fun q => q c69) hf
            refine lv_aload_n hx hb dL_law_733 rfl (lv_at hl 1 rfl) ?_
            refine lv_iload hx hb dL_law_734 (lv_at hl 7 rfl) ?_
            replace hf := obE hf
            obtain ⟨z70, hz70, hf⟩ := hf
            obtain ⟨oz70, S71⟩ := z70
            replace hf := ltE hf S71 rfl
            cases oz70 with
            | inl x =>
              replace hf := smL rfl hf
              cases hf
            | inr r72 =>
              replace hf := smR rfl hf
              refine x_callV (As := [.int v12]) (rest := []) (o := (some (.int r72))) (S1 := S71) (P := True) hC hl.1 hW hS hGs hA tv1 rfl (show vwCl[9]? = some (RX10, TX10, 11) ∧ ob 9 from ⟨rfl, by decide⟩) (c_X10_matches l g adL nL KL H.size F S65 v1 v12 tv1 r72 S71 hz70) (cwV 1 hts gL_law_X10_matches rfl rfl rfl (by decide +kernel) ⟨Nat.le_of_ble_eq_true rfl, Nat.le_of_ble_eq_true rfl⟩) rfl rfl (Nat.le_of_ble_eq_true rfl) dL_law_736 ⟨show cs ≤ room_1.cells from rc_le (by omega), show ss ≤ room_1.slots from rs_le (by omega)⟩ (fun H locs hPz70 hW hS => ?_)
              refine W.eq (g2 := F0 m 739 ls [.int r72]) rfl ?_
              refine lv_aload hx hb dL_law_739 (lv_at hl 3 rfl) ?_
              refine lv_iload hx hb dL_law_741 (lv_at hl 7 rfl) ?_
              replace hf := ckiE hf
              obtain ⟨h74, hf⟩ := hf
              refine x_iald hC hW tv4 rfl rfl h74 dL_law_743 ?_
              refine lv_icmp_ne (tgt := 762) hx hb dL_law_744 (by decide) (fun c75 => ?_) (fun c75 => ?_)
              · replace hf := ifT c75 hf
                refine lv_iconst (v := 0) hx hb dL_law_762 (by decide) ?_
                exact absurd (Prod.mk.inj (Option.some.inj hf)).1 (by decide)
              · replace hf := ifF (fun q => q c75) hf
                refine lv_aload_n hx hb dL_law_747 rfl (lv_at hl 1 rfl) ?_
                refine lv_iload hx hb dL_law_748 (lv_at hl 7 rfl) ?_
                refine lv_iload hx hb dL_law_750 (lv_at hl 7 rfl) ?_
                replace hf := obE hf
                obtain ⟨z76, hz76, hf⟩ := hf
                obtain ⟨oz76, S77⟩ := z76
                replace hf := ltE hf S77 rfl
                cases oz76 with
                | inl x =>
                  replace hf := smL rfl hf
                  cases hf
                | inr r78 =>
                  replace hf := smR rfl hf
                  refine x_callV (As := [.int v12, .int v12]) (rest := []) (o := (some (.int r78))) (S1 := S77) (P := True) hC hl.1 hW hS hGs hA tv1 rfl (show vwCl[9]? = some (RX10, TX10, 11) ∧ ob 9 from ⟨rfl, by decide⟩) (c_X10_commonBytes l g adL nL KL H.size F S71 v1 v12 v12 tv1 r78 S77 hz76) (cwV 2 hts gL_law_X10_commonBytes rfl rfl rfl (by decide +kernel) ⟨Nat.le_of_ble_eq_true rfl, Nat.le_of_ble_eq_true rfl⟩) rfl rfl (Nat.le_of_ble_eq_true rfl) dL_law_752 ⟨show cs ≤ room_1.cells from rc_le (by omega), show ss ≤ room_1.slots from rs_le (by omega)⟩ (fun H locs hPz76 hW hS => ?_)
                  refine W.eq (g2 := F0 m 755 ls [.int r78]) rfl ?_
                  refine lv_aload_n hx hb dL_law_755 rfl (lv_at hl 2 rfl) ?_
                  refine lv_iload hx hb dL_law_756 (lv_at hl 7 rfl) ?_
                  replace hf := ckiE hf
                  obtain ⟨h80, hf⟩ := hf
                  refine x_iald hC hW tv3 rfl rfl h80 dL_law_758 ?_
                  refine lv_icmp_le (tgt := 764) hx hb dL_law_759 (by decide) (fun c81 => ?_) (fun c81 => ?_)
                  · replace hf := ifT c81 hf
                    refine lv_dload hx hb dL_law_764 (lv_at hl 5 rfl) ?_
                    refine lv_aload_n hx hb dL_law_766 rfl (lv_at hl 1 rfl) ?_
                    refine lv_iload hx hb dL_law_767 (lv_at hl 7 rfl) ?_
                    replace hf := obE hf
                    obtain ⟨z82, hz82, hf⟩ := hf
                    obtain ⟨oz82, S83⟩ := z82
                    replace hf := ltE hf S83 rfl
                    cases oz82 with
                    | inl x =>
                      replace hf := smL rfl hf
                      cases hf
                    | inr r84 =>
                      replace hf := smR rfl hf
                      refine x_callV (As := [.int v12]) (rest := [.double (v9)]) (o := (some (.double (r84)))) (S1 := S83) (P := True) hC hl.1 hW hS hGs hA tv1 rfl (show vwCl[9]? = some (RX10, TX10, 11) ∧ ob 9 from ⟨rfl, by decide⟩) (c_X10_fairShare l g adL nL KL H.size F S77 v1 v12 tv1 r84 S83 hz82) (cwV 1 hts gL_law_X10_fairShare rfl rfl rfl (by decide +kernel) ⟨Nat.le_of_ble_eq_true rfl, Nat.le_of_ble_eq_true rfl⟩) rfl rfl (Nat.le_of_ble_eq_true rfl) dL_law_769 ⟨show cs ≤ room_1.cells from rc_le (by omega), show ss ≤ room_1.slots from rs_le (by omega)⟩ (fun H locs hPz82 hW hS => ?_)
                      refine W.eq (g2 := F0 m 772 ls [.double (r84), .double (v9)]) rfl ?_
                      replace hf := cknE hf
                      obtain ⟨h86, hf⟩ := hf
                      refine lv_dadd hx hb dL_law_772 h86 ?_
                      refine lv_topd (fun x87 ex87 => ?_)
                      replace hf := ltE hf x87 ex87
                      refine lv_dstore (lv' := [(9, .double (x87)), (0, .ref (gen g 98)), (1, .ref (adL v1)), (3, .ref (adL v3)), (4, .ref (adL v4)), (6, .int v6), (11, .int v11), (12, .int v12)]) hx hb dL_law_773 hl (by decide) rfl (fun ls hl => ?_)
                      refine lv_iload hx hb dL_law_775 (lv_at hl 6 rfl) ?_
                      refine lv_aload_n hx hb dL_law_777 rfl (lv_at hl 3 rfl) ?_
                      refine lv_iload hx hb dL_law_778 (lv_at hl 7 rfl) ?_
                      replace hf := ckiE hf
                      obtain ⟨h88, hf⟩ := hf
                      refine x_iald hC hW tv3 rfl rfl h88 dL_law_780 ?_
                      refine lv_iadd hx hb dL_law_781 ?_
                      refine lv_topi (fun x89 ex89 => ?_)
                      replace hf := ltE hf x89 ex89
                      refine lv_istore (lv' := [(11, .int x89), (9, .double (x87)), (0, .ref (gen g 98)), (1, .ref (adL v1)), (3, .ref (adL v3)), (4, .ref (adL v4)), (6, .int v6), (12, .int v12)]) hx hb dL_law_782 hl (by decide) rfl (fun ls hl => ?_)
                      obtain ⟨x90, ex90⟩ : ∃ z : Int32, z = v12 + 1 := ⟨_, rfl⟩
                      replace hf := ltE hf x90 ex90
                      refine lv_iinc (v := x90) (lv' := [(12, .int x90), (11, .int x89), (9, .double (x87)), (0, .ref (gen g 98)), (1, .ref (adL v1)), (3, .ref (adL v3)), (4, .ref (adL v4)), (6, .int v6)]) hx hb dL_law_784 hl (k := 7) rfl (by rw [ex90]; rfl) (by decide) rfl (fun ls hl => ?_)
                      refine lv_goto (tgt := 705) hx hb dL_law_787 (by decide) ?_
                      exact ih705 adL KL nL hagL cs ss (by omega) (by omega) S83 v0 v1 v3 v4 v6 x87 x89 x90 tv0 tv1 tv3 tv4 _ _ _ hf hW hS (lv_sub hl [3, 4, 5, 6, 7, 2, 1, 0] rfl)
                  · replace hf := ifF c81 hf
                    refine lv_iconst (v := 0) hx hb dL_law_762 (by decide) ?_
                    exact absurd (Prod.mk.inj (Option.some.inj hf)).1 (by decide)
  have L577 : ∀ (fu577 : Nat) (adL KL : Nat → Nat) (nL : Nat) (hagL : Ag ad K n adL KL nL) (cs ss : Nat) (hcs : cs + (0) ≤ 1315) (hss : ss + (0) ≤ 637514) (S0 : St) (v0 : XS) (v1 : Nat) (v2 : Nat) (v3 : Nat) (v4 : Nat) (v6 : Int32) (v9 : Int32) (tv0 : v0 = gX g) (tv1 : v1 < nL ∧ KL v1 = 9) (tv2 : v2 < nL ∧ KL v2 = 12) (tv3 : v3 < nL ∧ KL v3 = 12) (tv4 : v4 < nL ∧ KL v4 = 12) (H : Heap) (locs : List Loc) (ls : Array Slot), f_L_law_L577 F fu577 S0 nL v0 v1 v2 v3 v4 v6 v9 = some (1, S9, n9) → Wb g adL nL KL S0 (dA ad n s.heap.size) H → va_S (dA ad n s.heap.size) s.heap H locs → lv_has ls 14 [(0, .ref (gen g 98)), (1, .ref (adL v1)), (2, .ref (adL v2)), (3, .ref (adL v3)), (4, .ref (adL v4)), (6, .int v6), (9, .int v9)] → W p l e room_1 s m #[Value.ref (gen g 98)] below meth c H locs cs ss (lw_Z below #[Value.ref (gen g 98)] s) (F0 m 577 ls []) := by
    intro fu577
    induction fu577 with
    | zero =>
      intro adL KL nL hagL cs ss hcs hss S0 v0 v1 v2 v3 v4 v6 v9 tv0 tv1 tv2 tv3 tv4 H locs ls hf
      cases hf
    | succ fu577 ih577 =>
      have L690 : ∀ (adL KL : Nat → Nat) (nL : Nat) (hagL : Ag ad K n adL KL nL) (cs ss : Nat) (hcs : cs + (0) ≤ 1315) (hss : ss + (0) ≤ 637514) (S0 : St) (v0 : XS) (v1 : Nat) (v2 : Nat) (v3 : Nat) (v4 : Nat) (v6 : Int32) (v9 : Int32) (tv0 : v0 = gX g) (tv1 : v1 < nL ∧ KL v1 = 9) (tv2 : v2 < nL ∧ KL v2 = 12) (tv3 : v3 < nL ∧ KL v3 = 12) (tv4 : v4 < nL ∧ KL v4 = 12) (H : Heap) (locs : List Loc) (ls : Array Slot), f_L_law_L690 F (fun a0 a1 a2 a3 a4 a5 a6 a7 a8 => f_L_law_L577 F fu577 a0 a1 a2 a3 a4 a5 a6 a7 a8) S0 nL v0 v1 v2 v3 v4 v6 v9 = some (1, S9, n9) → Wb g adL nL KL S0 (dA ad n s.heap.size) H → va_S (dA ad n s.heap.size) s.heap H locs → lv_has ls 14 [(0, .ref (gen g 98)), (1, .ref (adL v1)), (2, .ref (adL v2)), (3, .ref (adL v3)), (4, .ref (adL v4)), (6, .int v6), (9, .int v9)] → W p l e room_1 s m #[Value.ref (gen g 98)] below meth c H locs cs ss (lw_Z below #[Value.ref (gen g 98)] s) (F0 m 690 ls []) := by
        intro adL KL nL hagL cs ss hcs hss S0 v0 v1 v2 v3 v4 v6 v9 tv0 tv1 tv2 tv3 tv4 H locs ls hf hW hS hl
        unfold f_L_law_L690 at hf
        obtain ⟨x92, ex92⟩ : ∃ z : Int32, z = v9 + 1 := ⟨_, rfl⟩
        replace hf := ltE hf x92 ex92
        refine lv_iinc (v := x92) (lv' := [(9, .int x92), (0, .ref (gen g 98)), (1, .ref (adL v1)), (2, .ref (adL v2)), (3, .ref (adL v3)), (4, .ref (adL v4)), (6, .int v6)]) hx hb dL_law_690 hl (k := 6) rfl (by rw [ex92]; rfl) (by decide) rfl (fun ls hl => ?_)
        refine lv_goto (tgt := 577) hx hb dL_law_693 (by decide) ?_
        exact ih577 adL KL nL hagL cs ss (by omega) (by omega) S0 v0 v1 v2 v3 v4 v6 x92 tv0 tv1 tv2 tv3 tv4 _ _ _ hf hW hS (lv_sub hl [1, 2, 3, 4, 5, 6, 0] rfl)
      have L602 : ∀ (fu602 : Nat) (adL KL : Nat → Nat) (nL : Nat) (hagL : Ag ad K n adL KL nL) (cs ss : Nat) (hcs : cs + (0) ≤ 1315) (hss : ss + (0) ≤ 637514) (S0 : St) (v0 : XS) (v1 : Nat) (v2 : Nat) (v3 : Nat) (v4 : Nat) (v6 : Int32) (v9 : Int32) (v10 : Int64) (v12 : Int32) (tv0 : v0 = gX g) (tv1 : v1 < nL ∧ KL v1 = 9) (tv2 : v2 < nL ∧ KL v2 = 12) (tv3 : v3 < nL ∧ KL v3 = 12) (tv4 : v4 < nL ∧ KL v4 = 12) (H : Heap) (locs : List Loc) (ls : Array Slot), f_L_law_L602 F (fun a0 a1 a2 a3 a4 a5 a6 a7 a8 => f_L_law_L577 F fu577 a0 a1 a2 a3 a4 a5 a6 a7 a8) fu602 S0 nL v0 v1 v2 v3 v4 v6 v9 v10 v12 = some (1, S9, n9) → Wb g adL nL KL S0 (dA ad n s.heap.size) H → va_S (dA ad n s.heap.size) s.heap H locs → lv_has ls 14 [(0, .ref (gen g 98)), (1, .ref (adL v1)), (2, .ref (adL v2)), (3, .ref (adL v3)), (4, .ref (adL v4)), (6, .int v6), (9, .int v9), (10, .long (v10)), (12, .int v12)] → W p l e room_1 s m #[Value.ref (gen g 98)] below meth c H locs cs ss (lw_Z below #[Value.ref (gen g 98)] s) (F0 m 602 ls []) := by
        intro fu602
        induction fu602 with
        | zero =>
          intro adL KL nL hagL cs ss hcs hss S0 v0 v1 v2 v3 v4 v6 v9 v10 v12 tv0 tv1 tv2 tv3 tv4 H locs ls hf
          cases hf
        | succ fu602 ih602 =>
          intro adL KL nL hagL cs ss hcs hss S0 v0 v1 v2 v3 v4 v6 v9 v10 v12 tv0 tv1 tv2 tv3 tv4 H locs ls hf hW hS hl
          unfold f_L_law_L602 at hf
          refine lv_iload hx hb dL_law_602 (lv_at hl 8 rfl) ?_
          refine lv_iload hx hb dL_law_604 (lv_at hl 6 rfl) ?_
          replace hf := obE hf
          obtain ⟨z138, hz138, hf⟩ := hf
          obtain ⟨r140, S139⟩ := z138
          replace hf := ltE (ltE hf r140 rfl) S139 rfl
          refine x_callS (As := [.int v9]) (rest := [.int v12]) (o := (some (.ref (sad g adL r140)))) (S1 := S139) hC hl.1 hW hS hGs hA (c_L_part l g adL nL KL H.size F S0 v9 r140 S139 hz138) (va_cwS 1 hts gL_law_L_part rfl rfl rfl (by decide +kernel) ⟨Nat.le_of_ble_eq_true rfl, Nat.le_of_ble_eq_true rfl⟩) rfl rfl (Nat.le_of_ble_eq_true rfl) dL_law_606 ⟨show cs ≤ room_1.cells from rc_le (by omega), show ss ≤ room_1.slots from rs_le (by omega)⟩ (fun H locs hPz138 hW hS => ?_)
          refine W.eq (g2 := F0 m 609 ls [.ref ((sad g adL r140)), .int v12]) rfl ?_
          replace hf := obE hf
          obtain ⟨z142, hz142, hf⟩ := hf
          obtain ⟨r144, S143⟩ := z142
          replace hf := ltE (ltE hf r144 rfl) S143 rfl
          refine x_callVs (As := []) (rest := [.int v12]) (o := (some (.int r144))) (S1 := S143) hC hl.1 hW hS hGs hA hPz138 rfl (c_J0_length_8abf5 l g adL nL KL H.size F S139 r140 hPz138 r144 S143 hz142) (cwV 0 hts gL_law_J0_length_8abf5 rfl rfl rfl (by decide +kernel) ⟨Nat.le_of_ble_eq_true rfl, Nat.le_of_ble_eq_true rfl⟩) rfl rfl (Nat.le_of_ble_eq_true rfl) dL_law_609 ⟨show cs ≤ room_1.cells from rc_le (by omega), show ss ≤ room_1.slots from rs_le (by omega)⟩ (fun H locs hPz142 hW hS => ?_)
          refine W.eq (g2 := F0 m 612 ls [.int r144, .int v12]) rfl ?_
          refine lv_icmp_ge (tgt := 641) hx hb dL_law_612 (by decide) (fun c146 => ?_) (fun c146 => ?_)
          · replace hf := ifT c146 hf
            refine lv_aload_n hx hb dL_law_641 rfl (lv_at hl 1 rfl) ?_
            refine lv_aload_n hx hb dL_law_642 rfl (lv_at hl 2 rfl) ?_
            refine lv_iload hx hb dL_law_643 (lv_at hl 6 rfl) ?_
            replace hf := ckiE hf
            obtain ⟨h147, hf⟩ := hf
            refine x_iald hC hW tv2 rfl rfl h147 dL_law_645 ?_
            replace hf := obE hf
            obtain ⟨z148, hz148, hf⟩ := hf
            obtain ⟨oz148, S149⟩ := z148
            replace hf := ltE hf S149 rfl
            cases oz148 with
            | inl x =>
              replace hf := smL rfl hf
              cases hf
            | inr r150 =>
              replace hf := smR rfl hf
              refine x_callV (As := [.int (ai S143 v2 (Int32.toNatClampNeg v9))]) (rest := []) (o := (some (.long (r150)))) (S1 := S149) (P := True) hC hl.1 hW hS hGs hA tv1 rfl (show vwCl[9]? = some (RX10, TX10, 11) ∧ ob 9 from ⟨rfl, by decide⟩) (c_X10_digest l g adL nL KL H.size F S143 v1 (ai S143 v2 (Int32.toNatClampNeg v9)) tv1 r150 S149 hz148) (cwV 1 hts gL_law_X10_digest rfl rfl rfl (by decide +kernel) ⟨Nat.le_of_ble_eq_true rfl, Nat.le_of_ble_eq_true rfl⟩) rfl rfl (Nat.le_of_ble_eq_true rfl) dL_law_646 ⟨show cs ≤ room_1.cells from rc_le (by omega), show ss ≤ room_1.slots from rs_le (by omega)⟩ (fun H locs hPz148 hW hS => ?_)
              refine W.eq (g2 := F0 m 649 ls [.long (r150)]) rfl ?_
              refine lv_lload hx hb dL_law_649 (lv_at hl 7 rfl) ?_
              refine W.lcmp hx hb dL_law_651 ?_
              refine lv_if_ne (tgt := 688) hx hb dL_law_652 (by decide) (fun c152 => ?_) (fun c152 => ?_)
              · replace hf := ifT c152 hf
                refine lv_iconst (v := 0) hx hb dL_law_688 (by decide) ?_
                exact absurd (Prod.mk.inj (Option.some.inj hf)).1 (by decide)
              · replace hf := ifF (fun q => q c152) hf
                refine lv_aload_n hx hb dL_law_655 rfl (lv_at hl 1 rfl) ?_
                refine lv_aload_n hx hb dL_law_656 rfl (lv_at hl 2 rfl) ?_
                refine lv_iload hx hb dL_law_657 (lv_at hl 6 rfl) ?_
                replace hf := ckiE hf
                obtain ⟨h153, hf⟩ := hf
                refine x_iald hC hW tv2 rfl rfl h153 dL_law_659 ?_
                refine lv_iconst (v := 0) hx hb dL_law_660 (by decide) ?_
                replace hf := obE hf
                obtain ⟨z154, hz154, hf⟩ := hf
                obtain ⟨oz154, S155⟩ := z154
                replace hf := ltE hf S155 rfl
                cases oz154 with
                | inl x =>
                  replace hf := smL rfl hf
                  cases hf
                | inr r156 =>
                  replace hf := smR rfl hf
                  refine x_callV (As := [.int (ai S149 v2 (Int32.toNatClampNeg v9)), .int 0]) (rest := []) (o := (some (.int r156))) (S1 := S155) (P := True) hC hl.1 hW hS hGs hA tv1 rfl (show vwCl[9]? = some (RX10, TX10, 11) ∧ ob 9 from ⟨rfl, by decide⟩) (c_X10_part l g adL nL KL H.size F S149 v1 (ai S149 v2 (Int32.toNatClampNeg v9)) ((0 : Int32)) tv1 r156 S155 hz154) (cwV 2 hts gL_law_X10_part rfl rfl rfl (by decide +kernel) ⟨Nat.le_of_ble_eq_true rfl, Nat.le_of_ble_eq_true rfl⟩) rfl rfl (Nat.le_of_ble_eq_true rfl) dL_law_661 ⟨show cs ≤ room_1.cells from rc_le (by omega), show ss ≤ room_1.slots from rs_le (by omega)⟩ (fun H locs hPz154 hW hS => ?_)
                  refine W.eq (g2 := F0 m 664 ls [.int r156]) rfl ?_
                  refine lv_iload hx hb dL_law_664 (lv_at hl 6 rfl) ?_
                  replace hf := obE hf
                  obtain ⟨z158, hz158, hf⟩ := hf
                  obtain ⟨r160, S159⟩ := z158
                  replace hf := ltE (ltE hf r160 rfl) S159 rfl
                  refine x_callS (As := [.int v9]) (rest := [.int r156]) (o := (some (.ref (sad g adL r160)))) (S1 := S159) hC hl.1 hW hS hGs hA (c_L_part l g adL nL KL H.size F S155 v9 r160 S159 hz158) (va_cwS 1 hts gL_law_L_part rfl rfl rfl (by decide +kernel) ⟨Nat.le_of_ble_eq_true rfl, Nat.le_of_ble_eq_true rfl⟩) rfl rfl (Nat.le_of_ble_eq_true rfl) dL_law_666 ⟨show cs ≤ room_1.cells from rc_le (by omega), show ss ≤ room_1.slots from rs_le (by omega)⟩ (fun H locs hPz158 hW hS => ?_)
                  refine W.eq (g2 := F0 m 669 ls [.ref ((sad g adL r160)), .int r156]) rfl ?_
                  replace hf := obE hf
                  obtain ⟨z162, hz162, hf⟩ := hf
                  obtain ⟨r164, S163⟩ := z162
                  replace hf := ltE (ltE hf r164 rfl) S163 rfl
                  refine x_callVs (As := []) (rest := [.int r156]) (o := (some (.int r164))) (S1 := S163) hC hl.1 hW hS hGs hA hPz158 rfl (c_J0_length_8abf5 l g adL nL KL H.size F S159 r160 hPz158 r164 S163 hz162) (cwV 0 hts gL_law_J0_length_8abf5 rfl rfl rfl (by decide +kernel) ⟨Nat.le_of_ble_eq_true rfl, Nat.le_of_ble_eq_true rfl⟩) rfl rfl (Nat.le_of_ble_eq_true rfl) dL_law_669 ⟨show cs ≤ room_1.cells from rc_le (by omega), show ss ≤ room_1.slots from rs_le (by omega)⟩ (fun H locs hPz162 hW hS => ?_)
                  refine W.eq (g2 := F0 m 672 ls [.int r164, .int r156]) rfl ?_
                  refine lv_icmp_ne (tgt := 688) hx hb dL_law_672 (by decide) (fun c166 => ?_) (fun c166 => ?_)
                  · replace hf := ifT c166 hf
                    refine lv_iconst (v := 0) hx hb dL_law_688 (by decide) ?_
                    exact absurd (Prod.mk.inj (Option.some.inj hf)).1 (by decide)
                  · replace hf := ifF (fun q => q c166) hf
                    refine lv_aload_n hx hb dL_law_675 rfl (lv_at hl 1 rfl) ?_
                    refine lv_aload_n hx hb dL_law_676 rfl (lv_at hl 2 rfl) ?_
                    refine lv_iload hx hb dL_law_677 (lv_at hl 6 rfl) ?_
                    replace hf := ckiE hf
                    obtain ⟨h167, hf⟩ := hf
                    refine x_iald hC hW tv2 rfl rfl h167 dL_law_679 ?_
                    refine lv_iconst (v := 2) hx hb dL_law_680 (by decide) ?_
                    replace hf := obE hf
                    obtain ⟨z168, hz168, hf⟩ := hf
                    obtain ⟨oz168, S169⟩ := z168
                    replace hf := ltE hf S169 rfl
                    cases oz168 with
                    | inl x =>
                      replace hf := smL rfl hf
                      cases hf
                    | inr r170 =>
                      replace hf := smR rfl hf
                      refine x_callV (As := [.int (ai S163 v2 (Int32.toNatClampNeg v9)), .int 2]) (rest := []) (o := (some (.int r170))) (S1 := S169) (P := True) hC hl.1 hW hS hGs hA tv1 rfl (show vwCl[9]? = some (RX10, TX10, 11) ∧ ob 9 from ⟨rfl, by decide⟩) (c_X10_part l g adL nL KL H.size F S163 v1 (ai S163 v2 (Int32.toNatClampNeg v9)) ((2 : Int32)) tv1 r170 S169 hz168) (cwV 2 hts gL_law_X10_part rfl rfl rfl (by decide +kernel) ⟨Nat.le_of_ble_eq_true rfl, Nat.le_of_ble_eq_true rfl⟩) rfl rfl (Nat.le_of_ble_eq_true rfl) dL_law_681 ⟨show cs ≤ room_1.cells from rc_le (by omega), show ss ≤ room_1.slots from rs_le (by omega)⟩ (fun H locs hPz168 hW hS => ?_)
                      refine W.eq (g2 := F0 m 684 ls [.int r170]) rfl ?_
                      refine lv_iconst (v := -1) hx hb dL_law_684 (by decide) ?_
                      refine lv_icmp_eq (tgt := 690) hx hb dL_law_685 (by decide) (fun c172 => ?_) (fun c172 => ?_)
                      · replace hf := ifT c172 hf
                        exact L690 adL KL nL hagL cs ss (by omega) (by omega) S169 v0 v1 v2 v3 v4 v6 v9 tv0 tv1 tv2 tv3 tv4 _ _ _ hf hW hS (lv_sub hl [0, 1, 2, 3, 4, 5, 6] rfl)
                      · replace hf := ifF c172 hf
                        refine lv_iconst (v := 0) hx hb dL_law_688 (by decide) ?_
                        exact absurd (Prod.mk.inj (Option.some.inj hf)).1 (by decide)
          · replace hf := ifF c146 hf
            refine lv_lload hx hb dL_law_615 (lv_at hl 7 rfl) ?_
            refine lv_iload hx hb dL_law_617 (lv_at hl 6 rfl) ?_
            replace hf := obE hf
            obtain ⟨z173, hz173, hf⟩ := hf
            obtain ⟨r175, S174⟩ := z173
            replace hf := ltE (ltE hf r175 rfl) S174 rfl
            refine x_callS (As := [.int v9]) (rest := [.long (v10)]) (o := (some (.ref (sad g adL r175)))) (S1 := S174) hC hl.1 hW hS hGs hA (c_L_part l g adL nL KL H.size F S143 v9 r175 S174 hz173) (va_cwS 1 hts gL_law_L_part rfl rfl rfl (by decide +kernel) ⟨Nat.le_of_ble_eq_true rfl, Nat.le_of_ble_eq_true rfl⟩) rfl rfl (Nat.le_of_ble_eq_true rfl) dL_law_619 ⟨show cs ≤ room_1.cells from rc_le (by omega), show ss ≤ room_1.slots from rs_le (by omega)⟩ (fun H locs hPz173 hW hS => ?_)
            refine W.eq (g2 := F0 m 622 ls [.ref ((sad g adL r175)), .long (v10)]) rfl ?_
            refine lv_iload hx hb dL_law_622 (lv_at hl 8 rfl) ?_
            replace hf := obE hf
            obtain ⟨z177, hz177, hf⟩ := hf
            obtain ⟨r179, S178⟩ := z177
            replace hf := ltE (ltE hf r179 rfl) S178 rfl
            refine x_callVs (As := [.int v12]) (rest := [.long (v10)]) (o := (some (.int r179))) (S1 := S178) hC hl.1 hW hS hGs hA hPz173 rfl (c_J0_charAt_5068e l g adL nL KL H.size F S174 r175 v12 hPz173 r179 S178 hz177) (cwV 1 hts gL_law_J0_charAt_5068e rfl rfl rfl (by decide +kernel) ⟨Nat.le_of_ble_eq_true rfl, Nat.le_of_ble_eq_true rfl⟩) rfl rfl (Nat.le_of_ble_eq_true rfl) dL_law_624 ⟨show cs ≤ room_1.cells from rc_le (by omega), show ss ≤ room_1.slots from rs_le (by omega)⟩ (fun H locs hPz177 hW hS => ?_)
            refine W.eq (g2 := F0 m 627 ls [.int r179, .long (v10)]) rfl ?_
            refine lv_i2l (v := r179.toInt64) hx hb dL_law_627 rfl ?_
            refine lv_lxor hx hb dL_law_628 ?_
            refine lv_ldc2 (v := (1099511628211)) hx hb hown w_1 dL_law_629 ?_
            refine lv_lmul hx hb dL_law_632 ?_
            refine lv_topl (fun x181 ex181 => ?_)
            replace hf := ltE hf x181 ex181
            refine lv_lstore (lv' := [(10, .long (x181)), (0, .ref (gen g 98)), (1, .ref (adL v1)), (2, .ref (adL v2)), (3, .ref (adL v3)), (4, .ref (adL v4)), (6, .int v6), (9, .int v9), (12, .int v12)]) hx hb dL_law_633 hl (by decide) rfl (fun ls hl => ?_)
            obtain ⟨x182, ex182⟩ : ∃ z : Int32, z = v12 + 1 := ⟨_, rfl⟩
            replace hf := ltE hf x182 ex182
            refine lv_iinc (v := x182) (lv' := [(12, .int x182), (10, .long (x181)), (0, .ref (gen g 98)), (1, .ref (adL v1)), (2, .ref (adL v2)), (3, .ref (adL v3)), (4, .ref (adL v4)), (6, .int v6), (9, .int v9)]) hx hb dL_law_635 hl (k := 8) rfl (by rw [ex182]; rfl) (by decide) rfl (fun ls hl => ?_)
            refine lv_goto (tgt := 602) hx hb dL_law_638 (by decide) ?_
            exact ih602 adL KL nL hagL cs ss (by omega) (by omega) S178 v0 v1 v2 v3 v4 v6 v9 x181 x182 tv0 tv1 tv2 tv3 tv4 _ _ _ hf hW hS (lv_sub hl [2, 3, 4, 5, 6, 7, 8, 1, 0] rfl)
      intro adL KL nL hagL cs ss hcs hss S0 v0 v1 v2 v3 v4 v6 v9 tv0 tv1 tv2 tv3 tv4 H locs ls hf hW hS hl
      unfold f_L_law_L577 at hf
      refine lv_iload hx hb dL_law_577 (lv_at hl 6 rfl) ?_
      refine lv_bipush (v := 6) hx hb dL_law_579 (by decide) ?_
      refine lv_icmp_ge (tgt := 696) hx hb dL_law_581 (by decide) (fun c188 => ?_) (fun c188 => ?_)
      · replace hf := ifT c188 hf
        refine lv_dconst0 hx hb dL_law_696 ?_
        refine lv_topd (fun x189 ex189 => ?_)
        replace hf := ltE hf x189 ex189
        refine lv_dstore (lv' := [(9, .double (x189)), (0, .ref (gen g 98)), (1, .ref (adL v1)), (2, .ref (adL v2)), (3, .ref (adL v3)), (4, .ref (adL v4)), (6, .int v6)]) hx hb dL_law_697 hl (by decide) rfl (fun ls hl => ?_)
        refine lv_iconst (v := 0) hx hb dL_law_699 (by decide) ?_
        refine lv_istore (lv' := [(11, .int 0), (9, .double (x189)), (0, .ref (gen g 98)), (1, .ref (adL v1)), (2, .ref (adL v2)), (3, .ref (adL v3)), (4, .ref (adL v4)), (6, .int v6)]) hx hb dL_law_700 hl (by decide) rfl (fun ls hl => ?_)
        refine lv_iconst (v := 0) hx hb dL_law_702 (by decide) ?_
        refine lv_istore (lv' := [(12, .int 0), (11, .int 0), (9, .double (x189)), (0, .ref (gen g 98)), (1, .ref (adL v1)), (2, .ref (adL v2)), (3, .ref (adL v3)), (4, .ref (adL v4)), (6, .int v6)]) hx hb dL_law_703 hl (by decide) rfl (fun ls hl => ?_)
        exact L705 F adL KL nL hagL cs ss (by omega) (by omega) S0 v0 v1 v3 v4 v6 x189 0 0 tv0 tv1 tv3 tv4 _ _ _ hf hW hS (lv_sub hl [3, 4, 6, 7, 8, 2, 1, 0] rfl)
      · replace hf := ifF c188 hf
        refine lv_aload_n hx hb dL_law_584 rfl (lv_at hl 2 rfl) ?_
        refine lv_iload hx hb dL_law_585 (lv_at hl 6 rfl) ?_
        replace hf := ckiE hf
        obtain ⟨h190, hf⟩ := hf
        refine x_iald hC hW tv2 rfl rfl h190 dL_law_587 ?_
        refine lv_if_ge (tgt := 594) hx hb dL_law_588 (by decide) (fun c191 => ?_) (fun c191 => ?_)
        · replace hf := ifT c191 hf
          refine lv_ldc2 (v := (-3750763034362895579)) hx hb hown w_2 dL_law_594 ?_
          refine lv_topl (fun x192 ex192 => ?_)
          replace hf := ltE hf x192 ex192
          refine lv_lstore (lv' := [(10, .long (x192)), (0, .ref (gen g 98)), (1, .ref (adL v1)), (2, .ref (adL v2)), (3, .ref (adL v3)), (4, .ref (adL v4)), (6, .int v6), (9, .int v9)]) hx hb dL_law_597 hl (by decide) rfl (fun ls hl => ?_)
          refine lv_iconst (v := 0) hx hb dL_law_599 (by decide) ?_
          refine lv_istore (lv' := [(12, .int 0), (10, .long (x192)), (0, .ref (gen g 98)), (1, .ref (adL v1)), (2, .ref (adL v2)), (3, .ref (adL v3)), (4, .ref (adL v4)), (6, .int v6), (9, .int v9)]) hx hb dL_law_600 hl (by decide) rfl (fun ls hl => ?_)
          exact L602 F adL KL nL hagL cs ss (by omega) (by omega) S0 v0 v1 v2 v3 v4 v6 v9 x192 0 tv0 tv1 tv2 tv3 tv4 _ _ _ hf hW hS (lv_sub hl [2, 3, 4, 5, 6, 7, 8, 1, 0] rfl)
        · replace hf := ifF c191 hf
          refine lv_goto (tgt := 690) hx hb dL_law_591 (by decide) ?_
          exact L690 adL KL nL hagL cs ss (by omega) (by omega) S0 v0 v1 v2 v3 v4 v6 v9 tv0 tv1 tv2 tv3 tv4 _ _ _ hf hW hS (lv_sub hl [0, 1, 2, 3, 4, 5, 6] rfl)
  have L77 : ∀ (fu77 : Nat) (adL KL : Nat → Nat) (nL : Nat) (hagL : Ag ad K n adL KL nL) (cs ss : Nat) (hcs : cs + (fu77 * 25 + 0) ≤ 1315) (hss : ss + (fu77 * 20537 + 0) ≤ 637514) (S0 : St) (v0 : XS) (v1 : Nat) (v2 : Nat) (v3 : Nat) (v4 : Nat) (v5 : Int32) (v6 : Int32) (v7 : Int32) (v8 : Int32) (v9 : Int32) (tv0 : v0 = gX g) (tv1 : v1 < nL ∧ KL v1 = 9) (tv2 : v2 < nL ∧ KL v2 = 12) (tv3 : v3 < nL ∧ KL v3 = 12) (tv4 : v4 < nL ∧ KL v4 = 12) (H : Heap) (locs : List Loc) (ls : Array Slot), f_L_law_L77 F fu77 S0 nL v0 v1 v2 v3 v4 v5 v6 v7 v8 v9 = some (1, S9, n9) → Wb g adL nL KL S0 (dA ad n s.heap.size) H → va_S (dA ad n s.heap.size) s.heap H locs → lv_has ls 14 [(0, .ref (gen g 98)), (1, .ref (adL v1)), (2, .ref (adL v2)), (3, .ref (adL v3)), (4, .ref (adL v4)), (5, .int v5), (6, .int v6), (7, .int v7), (8, .int v8), (9, .int v9)] → W p l e room_1 s m #[Value.ref (gen g 98)] below meth c H locs cs ss (lw_Z below #[Value.ref (gen g 98)] s) (F0 m 77 ls []) := by
    intro fu77
    induction fu77 with
    | zero =>
      intro adL KL nL hagL cs ss hcs hss S0 v0 v1 v2 v3 v4 v5 v6 v7 v8 v9 tv0 tv1 tv2 tv3 tv4 H locs ls hf
      cases hf
    | succ fu77 ih77 =>
      have L523 : ∀ (adL KL : Nat → Nat) (nL : Nat) (hagL : Ag ad K n adL KL nL) (cs ss : Nat) (hcs : cs + (0 + (fu77 * 25 + 0)) ≤ 1315) (hss : ss + (0 + (fu77 * 20537 + 0)) ≤ 637514) (S0 : St) (v0 : XS) (v1 : Nat) (v2 : Nat) (v3 : Nat) (v4 : Nat) (v5 : Int32) (v6 : Int32) (v7 : Int32) (v8 : Int32) (v9 : Int32) (tv0 : v0 = gX g) (tv1 : v1 < nL ∧ KL v1 = 9) (tv2 : v2 < nL ∧ KL v2 = 12) (tv3 : v3 < nL ∧ KL v3 = 12) (tv4 : v4 < nL ∧ KL v4 = 12) (H : Heap) (locs : List Loc) (ls : Array Slot), f_L_law_L523 F (fun a0 a1 a2 a3 a4 a5 a6 a7 a8 a9 a10 a11 => f_L_law_L77 F fu77 a0 a1 a2 a3 a4 a5 a6 a7 a8 a9 a10 a11) S0 nL v0 v1 v2 v3 v4 v5 v6 v7 v8 v9 = some (1, S9, n9) → Wb g adL nL KL S0 (dA ad n s.heap.size) H → va_S (dA ad n s.heap.size) s.heap H locs → lv_has ls 14 [(0, .ref (gen g 98)), (1, .ref (adL v1)), (2, .ref (adL v2)), (3, .ref (adL v3)), (4, .ref (adL v4)), (5, .int v5), (6, .int v6), (7, .int v7), (8, .int v8), (9, .int v9)] → W p l e room_1 s m #[Value.ref (gen g 98)] below meth c H locs cs ss (lw_Z below #[Value.ref (gen g 98)] s) (F0 m 523 ls []) := by
        intro adL KL nL hagL cs ss hcs hss S0 v0 v1 v2 v3 v4 v5 v6 v7 v8 v9 tv0 tv1 tv2 tv3 tv4 H locs ls hf hW hS hl
        unfold f_L_law_L523 at hf
        obtain ⟨x194, ex194⟩ : ∃ z : Int32, z = v9 + 1 := ⟨_, rfl⟩
        replace hf := ltE hf x194 ex194
        refine lv_iinc (v := x194) (lv' := [(9, .int x194), (0, .ref (gen g 98)), (1, .ref (adL v1)), (2, .ref (adL v2)), (3, .ref (adL v3)), (4, .ref (adL v4)), (5, .int v5), (6, .int v6), (7, .int v7), (8, .int v8)]) hx hb dL_law_523 hl (k := 9) rfl (by rw [ex194]; rfl) (by decide) rfl (fun ls hl => ?_)
        refine lv_goto (tgt := 77) hx hb dL_law_526 (by decide) ?_
        exact ih77 adL KL nL hagL cs ss (by omega) (by omega) S0 v0 v1 v2 v3 v4 v5 v6 v7 v8 x194 tv0 tv1 tv2 tv3 tv4 _ _ _ hf hW hS (lv_sub hl [1, 2, 3, 4, 5, 6, 7, 8, 9, 0] rfl)
      have L300 : ∀ (fu300 : Nat) (adL KL : Nat → Nat) (nL : Nat) (hagL : Ag ad K n adL KL nL) (cs ss : Nat) (hcs : cs + (0 + (fu77 * 25 + 0)) ≤ 1315) (hss : ss + (0 + (fu77 * 20537 + 0)) ≤ 637514) (S0 : St) (v0 : XS) (v1 : Nat) (v2 : Nat) (v3 : Nat) (v4 : Nat) (v5 : Int32) (v6 : Int32) (v7 : Int32) (v8 : Int32) (v9 : Int32) (v10 : Int32) (v11 : Int32) (v12 : Int32) (tv0 : v0 = gX g) (tv1 : v1 < nL ∧ KL v1 = 9) (tv2 : v2 < nL ∧ KL v2 = 12) (tv3 : v3 < nL ∧ KL v3 = 12) (tv4 : v4 < nL ∧ KL v4 = 12) (H : Heap) (locs : List Loc) (ls : Array Slot), f_L_law_L300 F (fun a0 a1 a2 a3 a4 a5 a6 a7 a8 a9 a10 a11 => f_L_law_L77 F fu77 a0 a1 a2 a3 a4 a5 a6 a7 a8 a9 a10 a11) fu300 S0 nL v0 v1 v2 v3 v4 v5 v6 v7 v8 v9 v10 v11 v12 = some (1, S9, n9) → Wb g adL nL KL S0 (dA ad n s.heap.size) H → va_S (dA ad n s.heap.size) s.heap H locs → lv_has ls 14 [(0, .ref (gen g 98)), (1, .ref (adL v1)), (2, .ref (adL v2)), (3, .ref (adL v3)), (4, .ref (adL v4)), (5, .int v5), (6, .int v6), (7, .int v7), (8, .int v8), (9, .int v9), (10, .int v10), (11, .int v11), (12, .int v12)] → W p l e room_1 s m #[Value.ref (gen g 98)] below meth c H locs cs ss (lw_Z below #[Value.ref (gen g 98)] s) (F0 m 300 ls []) := by
        intro fu300
        induction fu300 with
        | zero =>
          intro adL KL nL hagL cs ss hcs hss S0 v0 v1 v2 v3 v4 v5 v6 v7 v8 v9 v10 v11 v12 tv0 tv1 tv2 tv3 tv4 H locs ls hf
          cases hf
        | succ fu300 ih300 =>
          have L449 : ∀ (adL KL : Nat → Nat) (nL : Nat) (hagL : Ag ad K n adL KL nL) (cs ss : Nat) (hcs : cs + (0 + (fu77 * 25 + 0)) ≤ 1315) (hss : ss + (0 + (fu77 * 20537 + 0)) ≤ 637514) (S0 : St) (v0 : XS) (v1 : Nat) (v2 : Nat) (v3 : Nat) (v4 : Nat) (v5 : Int32) (v6 : Int32) (v7 : Int32) (v8 : Int32) (v9 : Int32) (v10 : Int32) (v11 : Int32) (v12 : Int32) (tv0 : v0 = gX g) (tv1 : v1 < nL ∧ KL v1 = 9) (tv2 : v2 < nL ∧ KL v2 = 12) (tv3 : v3 < nL ∧ KL v3 = 12) (tv4 : v4 < nL ∧ KL v4 = 12) (H : Heap) (locs : List Loc) (ls : Array Slot), f_L_law_L449 F (fun a0 a1 a2 a3 a4 a5 a6 a7 a8 a9 a10 a11 => f_L_law_L77 F fu77 a0 a1 a2 a3 a4 a5 a6 a7 a8 a9 a10 a11) (fun a0 a1 a2 a3 a4 a5 a6 a7 a8 a9 a10 a11 a12 a13 a14 => f_L_law_L300 F (fun a0 a1 a2 a3 a4 a5 a6 a7 a8 a9 a10 a11 => f_L_law_L77 F fu77 a0 a1 a2 a3 a4 a5 a6 a7 a8 a9 a10 a11) fu300 a0 a1 a2 a3 a4 a5 a6 a7 a8 a9 a10 a11 a12 a13 a14) S0 nL v0 v1 v2 v3 v4 v5 v6 v7 v8 v9 v10 v11 v12 = some (1, S9, n9) → Wb g adL nL KL S0 (dA ad n s.heap.size) H → va_S (dA ad n s.heap.size) s.heap H locs → lv_has ls 14 [(0, .ref (gen g 98)), (1, .ref (adL v1)), (2, .ref (adL v2)), (3, .ref (adL v3)), (4, .ref (adL v4)), (5, .int v5), (6, .int v6), (7, .int v7), (8, .int v8), (9, .int v9), (10, .int v10), (11, .int v11), (12, .int v12)] → W p l e room_1 s m #[Value.ref (gen g 98)] below meth c H locs cs ss (lw_Z below #[Value.ref (gen g 98)] s) (F0 m 449 ls []) := by
            intro adL KL nL hagL cs ss hcs hss S0 v0 v1 v2 v3 v4 v5 v6 v7 v8 v9 v10 v11 v12 tv0 tv1 tv2 tv3 tv4 H locs ls hf hW hS hl
            unfold f_L_law_L449 at hf
            obtain ⟨x196, ex196⟩ : ∃ z : Int32, z = v12 + 1 := ⟨_, rfl⟩
            replace hf := ltE hf x196 ex196
            refine lv_iinc (v := x196) (lv' := [(12, .int x196), (0, .ref (gen g 98)), (1, .ref (adL v1)), (2, .ref (adL v2)), (3, .ref (adL v3)), (4, .ref (adL v4)), (5, .int v5), (6, .int v6), (7, .int v7), (8, .int v8), (9, .int v9), (10, .int v10), (11, .int v11)]) hx hb dL_law_449 hl (k := 12) rfl (by rw [ex196]; rfl) (by decide) rfl (fun ls hl => ?_)
            refine lv_goto (tgt := 300) hx hb dL_law_452 (by decide) ?_
            exact ih300 adL KL nL hagL cs ss (by omega) (by omega) S0 v0 v1 v2 v3 v4 v5 v6 v7 v8 v9 v10 v11 x196 tv0 tv1 tv2 tv3 tv4 _ _ _ hf hW hS (lv_sub hl [1, 2, 3, 4, 5, 6, 7, 8, 9, 10, 11, 12, 0] rfl)
          have L433 : ∀ (adL KL : Nat → Nat) (nL : Nat) (hagL : Ag ad K n adL KL nL) (cs ss : Nat) (hcs : cs + (0 + (fu77 * 25 + 0)) ≤ 1315) (hss : ss + (0 + (fu77 * 20537 + 0)) ≤ 637514) (S0 : St) (v0 : XS) (v1 : Nat) (v2 : Nat) (v3 : Nat) (v4 : Nat) (v5 : Int32) (v6 : Int32) (v7 : Int32) (v8 : Int32) (v9 : Int32) (v10 : Int32) (v11 : Int32) (v12 : Int32) (s0 : Int32) (s1 : Int32) (tv0 : v0 = gX g) (tv1 : v1 < nL ∧ KL v1 = 9) (tv2 : v2 < nL ∧ KL v2 = 12) (tv3 : v3 < nL ∧ KL v3 = 12) (tv4 : v4 < nL ∧ KL v4 = 12) (H : Heap) (locs : List Loc) (ls : Array Slot), f_L_law_L433 F (fun a0 a1 a2 a3 a4 a5 a6 a7 a8 a9 a10 a11 => f_L_law_L77 F fu77 a0 a1 a2 a3 a4 a5 a6 a7 a8 a9 a10 a11) (fun a0 a1 a2 a3 a4 a5 a6 a7 a8 a9 a10 a11 a12 a13 a14 => f_L_law_L300 F (fun a0 a1 a2 a3 a4 a5 a6 a7 a8 a9 a10 a11 => f_L_law_L77 F fu77 a0 a1 a2 a3 a4 a5 a6 a7 a8 a9 a10 a11) fu300 a0 a1 a2 a3 a4 a5 a6 a7 a8 a9 a10 a11 a12 a13 a14) S0 nL v0 v1 v2 v3 v4 v5 v6 v7 v8 v9 v10 v11 v12 s0 s1 = some (1, S9, n9) → Wb g adL nL KL S0 (dA ad n s.heap.size) H → va_S (dA ad n s.heap.size) s.heap H locs → lv_has ls 14 [(0, .ref (gen g 98)), (1, .ref (adL v1)), (2, .ref (adL v2)), (3, .ref (adL v3)), (4, .ref (adL v4)), (5, .int v5), (6, .int v6), (7, .int v7), (8, .int v8), (9, .int v9), (10, .int v10), (11, .int v11), (12, .int v12)] → W p l e room_1 s m #[Value.ref (gen g 98)] below meth c H locs cs ss (lw_Z below #[Value.ref (gen g 98)] s) (F0 m 433 ls [.int s0, .int s1]) := by
            intro adL KL nL hagL cs ss hcs hss S0 v0 v1 v2 v3 v4 v5 v6 v7 v8 v9 v10 v11 v12 s0 s1 tv0 tv1 tv2 tv3 tv4 H locs ls hf hW hS hl
            unfold f_L_law_L433 at hf
            refine lv_icmp_ne (tgt := 447) hx hb dL_law_433 (by decide) (fun c203 => ?_) (fun c203 => ?_)
            · replace hf := ifT c203 hf
              refine lv_iconst (v := 0) hx hb dL_law_447 (by decide) ?_
              exact absurd (Prod.mk.inj (Option.some.inj hf)).1 (by decide)
            · replace hf := ifF (fun q => q c203) hf
              refine lv_aload_n hx hb dL_law_436 rfl (lv_at hl 1 rfl) ?_
              refine lv_iload hx hb dL_law_437 (lv_at hl 11 rfl) ?_
              refine lv_iload hx hb dL_law_439 (lv_at hl 12 rfl) ?_
              replace hf := obE hf
              obtain ⟨z204, hz204, hf⟩ := hf
              obtain ⟨oz204, S205⟩ := z204
              replace hf := ltE hf S205 rfl
              cases oz204 with
              | inl x =>
                replace hf := smL rfl hf
                cases hf
              | inr r206 =>
                replace hf := smR rfl hf
                refine x_callV (As := [.int v11, .int v12]) (rest := []) (o := (some (.int r206))) (S1 := S205) (P := True) hC hl.1 hW hS hGs hA tv1 rfl (show vwCl[9]? = some (RX10, TX10, 11) ∧ ob 9 from ⟨rfl, by decide⟩) (c_X10_enteredOn l g adL nL KL H.size F S0 v1 v11 v12 tv1 r206 S205 hz204) (cwV 2 hts gL_law_X10_enteredOn rfl rfl rfl (by decide +kernel) ⟨Nat.le_of_ble_eq_true rfl, Nat.le_of_ble_eq_true rfl⟩) rfl rfl (Nat.le_of_ble_eq_true rfl) dL_law_441 ⟨show cs ≤ room_1.cells from rc_le (by omega), show ss ≤ room_1.slots from rs_le (by omega)⟩ (fun H locs hPz204 hW hS => ?_)
                refine W.eq (g2 := F0 m 444 ls [.int r206]) rfl ?_
                refine lv_if_eq (tgt := 449) hx hb dL_law_444 (by decide) (fun c208 => ?_) (fun c208 => ?_)
                · replace hf := ifT c208 hf
                  exact L449 adL KL nL hagL cs ss (by omega) (by omega) S205 v0 v1 v2 v3 v4 v5 v6 v7 v8 v9 v10 v11 v12 tv0 tv1 tv2 tv3 tv4 _ _ _ hf hW hS (lv_sub hl [0, 1, 2, 3, 4, 5, 6, 7, 8, 9, 10, 11, 12] rfl)
                · replace hf := ifF c208 hf
                  refine lv_iconst (v := 0) hx hb dL_law_447 (by decide) ?_
                  exact absurd (Prod.mk.inj (Option.some.inj hf)).1 (by decide)
          have L383 : ∀ (adL KL : Nat → Nat) (nL : Nat) (hagL : Ag ad K n adL KL nL) (cs ss : Nat) (hcs : cs + (0 + (fu77 * 25 + 0)) ≤ 1315) (hss : ss + (0 + (fu77 * 20537 + 0)) ≤ 637514) (S0 : St) (v0 : XS) (v1 : Nat) (v2 : Nat) (v3 : Nat) (v4 : Nat) (v5 : Int32) (v6 : Int32) (v7 : Int32) (v8 : Int32) (v9 : Int32) (v10 : Int32) (v11 : Int32) (v12 : Int32) (v13 : Int32) (s0 : Int32) (s1 : Int32) (s2 : Int32) (s3 : Nat) (tv0 : v0 = gX g) (tv1 : v1 < nL ∧ KL v1 = 9) (tv2 : v2 < nL ∧ KL v2 = 12) (tv3 : v3 < nL ∧ KL v3 = 12) (tv4 : v4 < nL ∧ KL v4 = 12) (ts3 : s3 < nL ∧ KL s3 = 12) (H : Heap) (locs : List Loc) (ls : Array Slot), f_L_law_L383 F (fun a0 a1 a2 a3 a4 a5 a6 a7 a8 a9 a10 a11 => f_L_law_L77 F fu77 a0 a1 a2 a3 a4 a5 a6 a7 a8 a9 a10 a11) (fun a0 a1 a2 a3 a4 a5 a6 a7 a8 a9 a10 a11 a12 a13 a14 => f_L_law_L300 F (fun a0 a1 a2 a3 a4 a5 a6 a7 a8 a9 a10 a11 => f_L_law_L77 F fu77 a0 a1 a2 a3 a4 a5 a6 a7 a8 a9 a10 a11) fu300 a0 a1 a2 a3 a4 a5 a6 a7 a8 a9 a10 a11 a12 a13 a14) S0 nL v0 v1 v2 v3 v4 v5 v6 v7 v8 v9 v10 v11 v12 v13 s0 s1 s2 s3 = some (1, S9, n9) → Wb g adL nL KL S0 (dA ad n s.heap.size) H → va_S (dA ad n s.heap.size) s.heap H locs → lv_has ls 14 [(0, .ref (gen g 98)), (1, .ref (adL v1)), (2, .ref (adL v2)), (3, .ref (adL v3)), (4, .ref (adL v4)), (5, .int v5), (6, .int v6), (7, .int v7), (8, .int v8), (9, .int v9), (10, .int v10), (11, .int v11), (12, .int v12), (13, .int v13)] → W p l e room_1 s m #[Value.ref (gen g 98)] below meth c H locs cs ss (lw_Z below #[Value.ref (gen g 98)] s) (F0 m 383 ls [.int s0, .int s1, .int s2, .ref (adL s3)]) := by
            intro adL KL nL hagL cs ss hcs hss S0 v0 v1 v2 v3 v4 v5 v6 v7 v8 v9 v10 v11 v12 v13 s0 s1 s2 s3 tv0 tv1 tv2 tv3 tv4 ts3 H locs ls hf hW hS hl
            unfold f_L_law_L383 at hf
            refine lv_iadd hx hb dL_law_383 ?_
            replace hf := ckiE hf
            obtain ⟨h234, hf⟩ := hf
            refine x_iast hC hW hS ts3 rfl rfl h234 dL_law_384 (fun S235 H locs eS235 hW hS => ?_)
            replace hf := ltE hf S235 eS235
            refine lv_iload hx hb dL_law_385 (lv_at hl 13 rfl) ?_
            refine lv_if_eq (tgt := 449) hx hb dL_law_387 (by decide) (fun c236 => ?_) (fun c236 => ?_)
            · replace hf := ifT c236 hf
              exact L449 adL KL nL hagL cs ss (by omega) (by omega) S235 v0 v1 v2 v3 v4 v5 v6 v7 v8 v9 v10 v11 v12 tv0 tv1 tv2 tv3 tv4 _ _ _ hf hW hS (lv_sub hl [0, 1, 2, 3, 4, 5, 6, 7, 8, 9, 10, 11, 12] rfl)
            · replace hf := ifF c236 hf
              refine lv_aload_n hx hb dL_law_390 rfl (lv_at hl 1 rfl) ?_
              refine lv_iload hx hb dL_law_391 (lv_at hl 11 rfl) ?_
              refine lv_iload hx hb dL_law_393 (lv_at hl 12 rfl) ?_
              replace hf := obE hf
              obtain ⟨z237, hz237, hf⟩ := hf
              obtain ⟨oz237, S238⟩ := z237
              replace hf := ltE hf S238 rfl
              cases oz237 with
              | inl x =>
                replace hf := smL rfl hf
                cases hf
              | inr r239 =>
                replace hf := smR rfl hf
                refine x_callV (As := [.int v11, .int v12]) (rest := []) (o := (some (.int r239))) (S1 := S238) (P := True) hC hl.1 hW hS hGs hA tv1 rfl (show vwCl[9]? = some (RX10, TX10, 11) ∧ ob 9 from ⟨rfl, by decide⟩) (c_X10_state l g adL nL KL H.size F S235 v1 v11 v12 tv1 r239 S238 hz237) (cwV 2 hts gL_law_X10_state rfl rfl rfl (by decide +kernel) ⟨Nat.le_of_ble_eq_true rfl, Nat.le_of_ble_eq_true rfl⟩) rfl rfl (Nat.le_of_ble_eq_true rfl) dL_law_395 ⟨show cs ≤ room_1.cells from rc_le (by omega), show ss ≤ room_1.slots from rs_le (by omega)⟩ (fun H locs hPz237 hW hS => ?_)
                refine W.eq (g2 := F0 m 398 ls [.int r239]) rfl ?_
                refine lv_if_ne (tgt := 447) hx hb dL_law_398 (by decide) (fun c241 => ?_) (fun c241 => ?_)
                · replace hf := ifT c241 hf
                  refine lv_iconst (v := 0) hx hb dL_law_447 (by decide) ?_
                  exact absurd (Prod.mk.inj (Option.some.inj hf)).1 (by decide)
                · replace hf := ifF (fun q => q c241) hf
                  refine lv_aload_n hx hb dL_law_401 rfl (lv_at hl 1 rfl) ?_
                  refine lv_iload hx hb dL_law_402 (lv_at hl 11 rfl) ?_
                  refine lv_iload hx hb dL_law_404 (lv_at hl 12 rfl) ?_
                  replace hf := obE hf
                  obtain ⟨z242, hz242, hf⟩ := hf
                  obtain ⟨oz242, S243⟩ := z242
                  replace hf := ltE hf S243 rfl
                  cases oz242 with
                  | inl x =>
                    replace hf := smL rfl hf
                    cases hf
                  | inr r244 =>
                    replace hf := smR rfl hf
                    refine x_callV (As := [.int v11, .int v12]) (rest := []) (o := (some (.int r244))) (S1 := S243) (P := True) hC hl.1 hW hS hGs hA tv1 rfl (show vwCl[9]? = some (RX10, TX10, 11) ∧ ob 9 from ⟨rfl, by decide⟩) (c_X10_classOf l g adL nL KL H.size F S238 v1 v11 v12 tv1 r244 S243 hz242) (cwV 2 hts gL_law_X10_classOf rfl rfl rfl (by decide +kernel) ⟨Nat.le_of_ble_eq_true rfl, Nat.le_of_ble_eq_true rfl⟩) rfl rfl (Nat.le_of_ble_eq_true rfl) dL_law_406 ⟨show cs ≤ room_1.cells from rc_le (by omega), show ss ≤ room_1.slots from rs_le (by omega)⟩ (fun H locs hPz242 hW hS => ?_)
                    refine W.eq (g2 := F0 m 409 ls [.int r244]) rfl ?_
                    refine lv_aload_n hx hb dL_law_409 rfl (lv_at hl 0 rfl) ?_
                    refine lv_iload hx hb dL_law_410 (lv_at hl 9 rfl) ?_
                    replace hf := obE hf
                    obtain ⟨z246, hz246, hf⟩ := hf
                    obtain ⟨r248, S247⟩ := z246
                    replace hf := ltE (ltE hf r248 rfl) S247 rfl
                    refine x_callS (As := [.ref (gen g 98), .int v9]) (rest := [.int r244]) (o := (some (.int r248))) (S1 := S247) hC hl.1 hW hS hGs hA (c_L_special l g adL nL KL H.size F S243 v0 v9 tv0 r248 S247 hz246) (va_cwS 2 hts gL_law_L_special rfl rfl rfl (by decide +kernel) ⟨Nat.le_of_ble_eq_true rfl, Nat.le_of_ble_eq_true rfl⟩) rfl rfl (Nat.le_of_ble_eq_true rfl) dL_law_412 ⟨show cs ≤ room_1.cells from rc_le (by omega), show ss ≤ room_1.slots from rs_le (by omega)⟩ (fun H locs hPz246 hW hS => ?_)
                    refine W.eq (g2 := F0 m 415 ls [.int r248, .int r244]) rfl ?_
                    refine lv_if_ge (tgt := 427) hx hb dL_law_415 (by decide) (fun c250 => ?_) (fun c250 => ?_)
                    · replace hf := ifT c250 hf
                      refine lv_aload_n hx hb dL_law_427 rfl (lv_at hl 0 rfl) ?_
                      refine lv_iload hx hb dL_law_428 (lv_at hl 9 rfl) ?_
                      replace hf := obE hf
                      obtain ⟨z251, hz251, hf⟩ := hf
                      obtain ⟨r253, S252⟩ := z251
                      replace hf := ltE (ltE hf r253 rfl) S252 rfl
                      refine x_callS (As := [.ref (gen g 98), .int v9]) (rest := [.int r244]) (o := (some (.int r253))) (S1 := S252) hC hl.1 hW hS hGs hA (c_L_special l g adL nL KL H.size F S247 v0 v9 tv0 r253 S252 hz251) (va_cwS 2 hts gL_law_L_special rfl rfl rfl (by decide +kernel) ⟨Nat.le_of_ble_eq_true rfl, Nat.le_of_ble_eq_true rfl⟩) rfl rfl (Nat.le_of_ble_eq_true rfl) dL_law_430 ⟨show cs ≤ room_1.cells from rc_le (by omega), show ss ≤ room_1.slots from rs_le (by omega)⟩ (fun H locs hPz251 hW hS => ?_)
                      refine W.eq (g2 := F0 m 433 ls [.int r253, .int r244]) rfl ?_
                      exact L433 adL KL nL hagL cs ss (by omega) (by omega) S252 v0 v1 v2 v3 v4 v5 v6 v7 v8 v9 v10 v11 v12 r253 r244 tv0 tv1 tv2 tv3 tv4 _ _ _ hf hW hS (lv_sub hl [0, 1, 2, 3, 4, 5, 6, 7, 8, 9, 10, 11, 12] rfl)
                    · replace hf := ifF c250 hf
                      refine lv_aload_n hx hb dL_law_418 rfl (lv_at hl 0 rfl) ?_
                      refine lv_iload hx hb dL_law_419 (lv_at hl 12 rfl) ?_
                      replace hf := obE hf
                      obtain ⟨z255, hz255, hf⟩ := hf
                      obtain ⟨r257, S256⟩ := z255
                      replace hf := ltE (ltE hf r257 rfl) S256 rfl
                      refine x_callS (As := [.ref (gen g 98), .int v12]) (rest := [.int r244]) (o := (some (.int r257))) (S1 := S256) hC hl.1 hW hS hGs hA (c_L_classOf l g adL nL KL H.size F S247 v0 v12 tv0 r257 S256 hz255) (va_cwS 2 hts gL_law_L_classOf rfl rfl rfl (by decide +kernel) ⟨Nat.le_of_ble_eq_true rfl, Nat.le_of_ble_eq_true rfl⟩) rfl rfl (Nat.le_of_ble_eq_true rfl) dL_law_421 ⟨show cs ≤ room_1.cells from rc_le (by omega), show ss ≤ room_1.slots from rs_le (by omega)⟩ (fun H locs hPz255 hW hS => ?_)
                      refine W.eq (g2 := F0 m 424 ls [.int r257, .int r244]) rfl ?_
                      refine lv_goto (tgt := 433) hx hb dL_law_424 (by decide) ?_
                      exact L433 adL KL nL hagL cs ss (by omega) (by omega) S256 v0 v1 v2 v3 v4 v5 v6 v7 v8 v9 v10 v11 v12 r257 r244 tv0 tv1 tv2 tv3 tv4 _ _ _ hf hW hS (lv_sub hl [0, 1, 2, 3, 4, 5, 6, 7, 8, 9, 10, 11, 12] rfl)
          have L382 : ∀ (adL KL : Nat → Nat) (nL : Nat) (hagL : Ag ad K n adL KL nL) (cs ss : Nat) (hcs : cs + (0 + (fu77 * 25 + 0)) ≤ 1315) (hss : ss + (0 + (fu77 * 20537 + 0)) ≤ 637514) (S0 : St) (v0 : XS) (v1 : Nat) (v2 : Nat) (v3 : Nat) (v4 : Nat) (v5 : Int32) (v6 : Int32) (v7 : Int32) (v8 : Int32) (v9 : Int32) (v10 : Int32) (v11 : Int32) (v12 : Int32) (v13 : Int32) (s0 : Int32) (s1 : Int32) (s2 : Nat) (tv0 : v0 = gX g) (tv1 : v1 < nL ∧ KL v1 = 9) (tv2 : v2 < nL ∧ KL v2 = 12) (tv3 : v3 < nL ∧ KL v3 = 12) (tv4 : v4 < nL ∧ KL v4 = 12) (ts2 : s2 < nL ∧ KL s2 = 12) (H : Heap) (locs : List Loc) (ls : Array Slot), f_L_law_L382 F (fun a0 a1 a2 a3 a4 a5 a6 a7 a8 a9 a10 a11 => f_L_law_L77 F fu77 a0 a1 a2 a3 a4 a5 a6 a7 a8 a9 a10 a11) (fun a0 a1 a2 a3 a4 a5 a6 a7 a8 a9 a10 a11 a12 a13 a14 => f_L_law_L300 F (fun a0 a1 a2 a3 a4 a5 a6 a7 a8 a9 a10 a11 => f_L_law_L77 F fu77 a0 a1 a2 a3 a4 a5 a6 a7 a8 a9 a10 a11) fu300 a0 a1 a2 a3 a4 a5 a6 a7 a8 a9 a10 a11 a12 a13 a14) S0 nL v0 v1 v2 v3 v4 v5 v6 v7 v8 v9 v10 v11 v12 v13 s0 s1 s2 = some (1, S9, n9) → Wb g adL nL KL S0 (dA ad n s.heap.size) H → va_S (dA ad n s.heap.size) s.heap H locs → lv_has ls 14 [(0, .ref (gen g 98)), (1, .ref (adL v1)), (2, .ref (adL v2)), (3, .ref (adL v3)), (4, .ref (adL v4)), (5, .int v5), (6, .int v6), (7, .int v7), (8, .int v8), (9, .int v9), (10, .int v10), (11, .int v11), (12, .int v12), (13, .int v13)] → W p l e room_1 s m #[Value.ref (gen g 98)] below meth c H locs cs ss (lw_Z below #[Value.ref (gen g 98)] s) (F0 m 382 ls [.int s0, .int s1, .ref (adL s2)]) := by
            intro adL KL nL hagL cs ss hcs hss S0 v0 v1 v2 v3 v4 v5 v6 v7 v8 v9 v10 v11 v12 v13 s0 s1 s2 tv0 tv1 tv2 tv3 tv4 ts2 H locs ls hf hW hS hl
            unfold f_L_law_L382 at hf
            refine lv_iconst (v := 0) hx hb dL_law_382 (by decide) ?_
            exact L383 adL KL nL hagL cs ss (by omega) (by omega) S0 v0 v1 v2 v3 v4 v5 v6 v7 v8 v9 v10 v11 v12 v13 0 s0 s1 s2 tv0 tv1 tv2 tv3 tv4 ts2 _ _ _ hf hW hS (lv_sub hl [0, 1, 2, 3, 4, 5, 6, 7, 8, 9, 10, 11, 12, 13] rfl)
          have L356 : ∀ (adL KL : Nat → Nat) (nL : Nat) (hagL : Ag ad K n adL KL nL) (cs ss : Nat) (hcs : cs + (0 + (fu77 * 25 + 0)) ≤ 1315) (hss : ss + (0 + (fu77 * 20537 + 0)) ≤ 637514) (S0 : St) (v0 : XS) (v1 : Nat) (v2 : Nat) (v3 : Nat) (v4 : Nat) (v5 : Int32) (v6 : Int32) (v7 : Int32) (v8 : Int32) (v9 : Int32) (v10 : Int32) (v11 : Int32) (v12 : Int32) (v13 : Int32) (s0 : Int32) (s1 : Int32) (s2 : Int32) (s3 : Nat) (tv0 : v0 = gX g) (tv1 : v1 < nL ∧ KL v1 = 9) (tv2 : v2 < nL ∧ KL v2 = 12) (tv3 : v3 < nL ∧ KL v3 = 12) (tv4 : v4 < nL ∧ KL v4 = 12) (ts3 : s3 < nL ∧ KL s3 = 12) (H : Heap) (locs : List Loc) (ls : Array Slot), f_L_law_L356 F (fun a0 a1 a2 a3 a4 a5 a6 a7 a8 a9 a10 a11 => f_L_law_L77 F fu77 a0 a1 a2 a3 a4 a5 a6 a7 a8 a9 a10 a11) (fun a0 a1 a2 a3 a4 a5 a6 a7 a8 a9 a10 a11 a12 a13 a14 => f_L_law_L300 F (fun a0 a1 a2 a3 a4 a5 a6 a7 a8 a9 a10 a11 => f_L_law_L77 F fu77 a0 a1 a2 a3 a4 a5 a6 a7 a8 a9 a10 a11) fu300 a0 a1 a2 a3 a4 a5 a6 a7 a8 a9 a10 a11 a12 a13 a14) S0 nL v0 v1 v2 v3 v4 v5 v6 v7 v8 v9 v10 v11 v12 v13 s0 s1 s2 s3 = some (1, S9, n9) → Wb g adL nL KL S0 (dA ad n s.heap.size) H → va_S (dA ad n s.heap.size) s.heap H locs → lv_has ls 14 [(0, .ref (gen g 98)), (1, .ref (adL v1)), (2, .ref (adL v2)), (3, .ref (adL v3)), (4, .ref (adL v4)), (5, .int v5), (6, .int v6), (7, .int v7), (8, .int v8), (9, .int v9), (10, .int v10), (11, .int v11), (12, .int v12), (13, .int v13)] → W p l e room_1 s m #[Value.ref (gen g 98)] below meth c H locs cs ss (lw_Z below #[Value.ref (gen g 98)] s) (F0 m 356 ls [.int s0, .int s1, .int s2, .ref (adL s3)]) := by
            intro adL KL nL hagL cs ss hcs hss S0 v0 v1 v2 v3 v4 v5 v6 v7 v8 v9 v10 v11 v12 v13 s0 s1 s2 s3 tv0 tv1 tv2 tv3 tv4 ts3 H locs ls hf hW hS hl
            unfold f_L_law_L356 at hf
            refine lv_iadd hx hb dL_law_356 ?_
            replace hf := ckiE hf
            obtain ⟨h268, hf⟩ := hf
            refine x_iast hC hW hS ts3 rfl rfl h268 dL_law_357 (fun S269 H locs eS269 hW hS => ?_)
            replace hf := ltE hf S269 eS269
            refine lv_aload hx hb dL_law_358 (lv_at hl 4 rfl) ?_
            refine lv_iload hx hb dL_law_360 (lv_at hl 12 rfl) ?_
            refine lv_dup2_11 hx hb dL_law_362 rfl rfl ?_
            replace hf := ckiE hf
            obtain ⟨h270, hf⟩ := hf
            refine x_iald hC hW tv4 rfl rfl h270 dL_law_363 ?_
            refine lv_iload hx hb dL_law_364 (lv_at hl 13 rfl) ?_
            refine lv_if_eq (tgt := 382) hx hb dL_law_366 (by decide) (fun c271 => ?_) (fun c271 => ?_)
            · replace hf := ifT c271 hf
              exact L382 adL KL nL hagL cs ss (by omega) (by omega) S269 v0 v1 v2 v3 v4 v5 v6 v7 v8 v9 v10 v11 v12 v13 (ai S269 v4 (Int32.toNatClampNeg v12)) v12 v4 tv0 tv1 tv2 tv3 tv4 tv4 _ _ _ hf hW hS (lv_sub hl [0, 1, 2, 3, 4, 5, 6, 7, 8, 9, 10, 11, 12, 13] rfl)
            · replace hf := ifF c271 hf
              refine lv_aload_n hx hb dL_law_369 rfl (lv_at hl 0 rfl) ?_
              refine lv_iload hx hb dL_law_370 (lv_at hl 9 rfl) ?_
              replace hf := obE hf
              obtain ⟨z272, hz272, hf⟩ := hf
              obtain ⟨r274, S273⟩ := z272
              replace hf := ltE (ltE hf r274 rfl) S273 rfl
              refine x_callS (As := [.ref (gen g 98), .int v9]) (rest := [.int (ai S269 v4 (Int32.toNatClampNeg v12)), .int v12, .ref (adL v4)]) (o := (some (.int r274))) (S1 := S273) hC hl.1 hW hS hGs hA (c_L_hasAb l g adL nL KL H.size F S269 v0 v9 tv0 r274 S273 hz272) (va_cwS 2 hts gL_law_L_hasAb rfl rfl rfl (by decide +kernel) ⟨Nat.le_of_ble_eq_true rfl, Nat.le_of_ble_eq_true rfl⟩) rfl rfl (Nat.le_of_ble_eq_true rfl) dL_law_372 ⟨show cs ≤ room_1.cells from rc_le (by omega), show ss ≤ room_1.slots from rs_le (by omega)⟩ (fun H locs hPz272 hW hS => ?_)
              refine W.eq (g2 := F0 m 375 ls [.int r274, .int (ai S269 v4 (Int32.toNatClampNeg v12)), .int v12, .ref (adL v4)]) rfl ?_
              refine lv_if_eq (tgt := 382) hx hb dL_law_375 (by decide) (fun c276 => ?_) (fun c276 => ?_)
              · replace hf := ifT c276 hf
                exact L382 adL KL nL hagL cs ss (by omega) (by omega) S273 v0 v1 v2 v3 v4 v5 v6 v7 v8 v9 v10 v11 v12 v13 (ai S269 v4 (Int32.toNatClampNeg v12)) v12 v4 tv0 tv1 tv2 tv3 tv4 tv4 _ _ _ hf hW hS (lv_sub hl [0, 1, 2, 3, 4, 5, 6, 7, 8, 9, 10, 11, 12, 13] rfl)
              · replace hf := ifF c276 hf
                refine lv_iconst (v := 1) hx hb dL_law_378 (by decide) ?_
                refine lv_goto (tgt := 383) hx hb dL_law_379 (by decide) ?_
                exact L383 adL KL nL hagL cs ss (by omega) (by omega) S273 v0 v1 v2 v3 v4 v5 v6 v7 v8 v9 v10 v11 v12 v13 1 (ai S269 v4 (Int32.toNatClampNeg v12)) v12 v4 tv0 tv1 tv2 tv3 tv4 tv4 _ _ _ hf hW hS (lv_sub hl [0, 1, 2, 3, 4, 5, 6, 7, 8, 9, 10, 11, 12, 13] rfl)
          have L334 : ∀ (adL KL : Nat → Nat) (nL : Nat) (hagL : Ag ad K n adL KL nL) (cs ss : Nat) (hcs : cs + (0 + (fu77 * 25 + 0)) ≤ 1315) (hss : ss + (0 + (fu77 * 20537 + 0)) ≤ 637514) (S0 : St) (v0 : XS) (v1 : Nat) (v2 : Nat) (v3 : Nat) (v4 : Nat) (v5 : Int32) (v6 : Int32) (v7 : Int32) (v8 : Int32) (v9 : Int32) (v10 : Int32) (v11 : Int32) (v12 : Int32) (s0 : Int32) (tv0 : v0 = gX g) (tv1 : v1 < nL ∧ KL v1 = 9) (tv2 : v2 < nL ∧ KL v2 = 12) (tv3 : v3 < nL ∧ KL v3 = 12) (tv4 : v4 < nL ∧ KL v4 = 12) (H : Heap) (locs : List Loc) (ls : Array Slot), f_L_law_L334 F (fun a0 a1 a2 a3 a4 a5 a6 a7 a8 a9 a10 a11 => f_L_law_L77 F fu77 a0 a1 a2 a3 a4 a5 a6 a7 a8 a9 a10 a11) (fun a0 a1 a2 a3 a4 a5 a6 a7 a8 a9 a10 a11 a12 a13 a14 => f_L_law_L300 F (fun a0 a1 a2 a3 a4 a5 a6 a7 a8 a9 a10 a11 => f_L_law_L77 F fu77 a0 a1 a2 a3 a4 a5 a6 a7 a8 a9 a10 a11) fu300 a0 a1 a2 a3 a4 a5 a6 a7 a8 a9 a10 a11 a12 a13 a14) S0 nL v0 v1 v2 v3 v4 v5 v6 v7 v8 v9 v10 v11 v12 s0 = some (1, S9, n9) → Wb g adL nL KL S0 (dA ad n s.heap.size) H → va_S (dA ad n s.heap.size) s.heap H locs → lv_has ls 14 [(0, .ref (gen g 98)), (1, .ref (adL v1)), (2, .ref (adL v2)), (3, .ref (adL v3)), (4, .ref (adL v4)), (5, .int v5), (6, .int v6), (7, .int v7), (8, .int v8), (9, .int v9), (10, .int v10), (11, .int v11), (12, .int v12)] → W p l e room_1 s m #[Value.ref (gen g 98)] below meth c H locs cs ss (lw_Z below #[Value.ref (gen g 98)] s) (F0 m 334 ls [.int s0]) := by
            intro adL KL nL hagL cs ss hcs hss S0 v0 v1 v2 v3 v4 v5 v6 v7 v8 v9 v10 v11 v12 s0 tv0 tv1 tv2 tv3 tv4 H locs ls hf hW hS hl
            unfold f_L_law_L334 at hf
            refine lv_istore (lv' := [(13, .int s0), (0, .ref (gen g 98)), (1, .ref (adL v1)), (2, .ref (adL v2)), (3, .ref (adL v3)), (4, .ref (adL v4)), (5, .int v5), (6, .int v6), (7, .int v7), (8, .int v8), (9, .int v9), (10, .int v10), (11, .int v11), (12, .int v12)]) hx hb dL_law_334 hl (by decide) rfl (fun ls hl => ?_)
            refine lv_aload_n hx hb dL_law_336 rfl (lv_at hl 4 rfl) ?_
            refine lv_iload hx hb dL_law_337 (lv_at hl 13 rfl) ?_
            refine lv_dup2_11 hx hb dL_law_339 rfl rfl ?_
            replace hf := ckiE hf
            obtain ⟨h283, hf⟩ := hf
            refine x_iald hC hW tv3 rfl rfl h283 dL_law_340 ?_
            refine lv_iload hx hb dL_law_341 (lv_at hl 0 rfl) ?_
            refine lv_if_eq (tgt := 355) hx hb dL_law_343 (by decide) (fun c284 => ?_) (fun c284 => ?_)
            · replace hf := ifT c284 hf
              refine lv_iconst (v := 0) hx hb dL_law_355 (by decide) ?_
              exact L356 adL KL nL hagL cs ss (by omega) (by omega) S0 v0 v1 v2 v3 v4 v5 v6 v7 v8 v9 v10 v11 v12 s0 0 (ai S0 v3 (Int32.toNatClampNeg v12)) v12 v3 tv0 tv1 tv2 tv3 tv4 tv3 _ _ _ hf hW hS (lv_sub hl [1, 2, 3, 4, 5, 6, 7, 8, 9, 10, 11, 12, 13, 0] rfl)
            · replace hf := ifF c284 hf
              refine lv_aload_n hx hb dL_law_346 rfl (lv_at hl 1 rfl) ?_
              refine lv_iload hx hb dL_law_347 (lv_at hl 10 rfl) ?_
              replace hf := obE hf
              obtain ⟨z285, hz285, hf⟩ := hf
              obtain ⟨r287, S286⟩ := z285
              replace hf := ltE (ltE hf r287 rfl) S286 rfl
              refine x_callS (As := [.ref (gen g 98), .int v9]) (rest := [.int (ai S0 v3 (Int32.toNatClampNeg v12)), .int v12, .ref (adL v3)]) (o := (some (.int r287))) (S1 := S286) hC hl.1 hW hS hGs hA (c_L_size l g adL nL KL H.size F S0 v0 v9 tv0 r287 S286 hz285) (va_cwS 2 hts gL_law_L_size rfl rfl rfl (by decide +kernel) ⟨Nat.le_of_ble_eq_true rfl, Nat.le_of_ble_eq_true rfl⟩) rfl rfl (Nat.le_of_ble_eq_true rfl) dL_law_349 ⟨show cs ≤ room_1.cells from rc_le (by omega), show ss ≤ room_1.slots from rs_le (by omega)⟩ (fun H locs hPz285 hW hS => ?_)
              refine W.eq (g2 := F0 m 352 ls [.int r287, .int (ai S0 v3 (Int32.toNatClampNeg v12)), .int v12, .ref (adL v3)]) rfl ?_
              refine lv_goto (tgt := 356) hx hb dL_law_352 (by decide) ?_
              exact L356 adL KL nL hagL cs ss (by omega) (by omega) S286 v0 v1 v2 v3 v4 v5 v6 v7 v8 v9 v10 v11 v12 s0 r287 (ai S0 v3 (Int32.toNatClampNeg v12)) v12 v3 tv0 tv1 tv2 tv3 tv4 tv3 _ _ _ hf hW hS (lv_sub hl [1, 2, 3, 4, 5, 6, 7, 8, 9, 10, 11, 12, 13, 0] rfl)
          intro adL KL nL hagL cs ss hcs hss S0 v0 v1 v2 v3 v4 v5 v6 v7 v8 v9 v10 v11 v12 tv0 tv1 tv2 tv3 tv4 H locs ls hf hW hS hl
          unfold f_L_law_L300 at hf
          refine lv_iload hx hb dL_law_300 (lv_at hl 12 rfl) ?_
          refine lv_aload_n hx hb dL_law_302 rfl (lv_at hl 0 rfl) ?_
          replace hf := obE hf
          obtain ⟨z332, hz332, hf⟩ := hf
          obtain ⟨r334, S333⟩ := z332
          replace hf := ltE (ltE hf r334 rfl) S333 rfl
          refine x_callS (As := [.ref (gen g 98)]) (rest := [.int v12]) (o := (some (.int r334))) (S1 := S333) hC hl.1 hW hS hGs hA (c_L_users l g adL nL KL H.size F S0 v0 tv0 r334 S333 hz332) (va_cwS 1 hts gL_law_L_users rfl rfl rfl (by decide +kernel) ⟨Nat.le_of_ble_eq_true rfl, Nat.le_of_ble_eq_true rfl⟩) rfl rfl (Nat.le_of_ble_eq_true rfl) dL_law_303 ⟨show cs ≤ room_1.cells from rc_le (by omega), show ss ≤ room_1.slots from rs_le (by omega)⟩ (fun H locs hPz332 hW hS => ?_)
          refine W.eq (g2 := F0 m 306 ls [.int r334, .int v12]) rfl ?_
          refine lv_icmp_ge (tgt := 455) hx hb dL_law_306 (by decide) (fun c336 => ?_) (fun c336 => ?_)
          · replace hf := ifT c336 hf
            refine lv_aload_n hx hb dL_law_455 rfl (lv_at hl 1 rfl) ?_
            refine lv_iload hx hb dL_law_456 (lv_at hl 11 rfl) ?_
            replace hf := obE hf
            obtain ⟨z337, hz337, hf⟩ := hf
            obtain ⟨oz337, S338⟩ := z337
            replace hf := ltE hf S338 rfl
            cases oz337 with
            | inl x =>
              replace hf := smL rfl hf
              cases hf
            | inr r339 =>
              replace hf := smR rfl hf
              refine x_callV (As := [.int v11]) (rest := []) (o := (some (.int r339))) (S1 := S338) (P := True) hC hl.1 hW hS hGs hA tv1 rfl (show vwCl[9]? = some (RX10, TX10, 11) ∧ ob 9 from ⟨rfl, by decide⟩) (c_X10_readers l g adL nL KL H.size F S333 v1 v11 tv1 r339 S338 hz337) (cwV 1 hts gL_law_X10_readers rfl rfl rfl (by decide +kernel) ⟨Nat.le_of_ble_eq_true rfl, Nat.le_of_ble_eq_true rfl⟩) rfl rfl (Nat.le_of_ble_eq_true rfl) dL_law_458 ⟨show cs ≤ room_1.cells from rc_le (by omega), show ss ≤ room_1.slots from rs_le (by omega)⟩ (fun H locs hPz337 hW hS => ?_)
              refine W.eq (g2 := F0 m 461 ls [.int r339]) rfl ?_
              refine lv_aload_n hx hb dL_law_461 rfl (lv_at hl 0 rfl) ?_
              refine lv_iload hx hb dL_law_462 (lv_at hl 9 rfl) ?_
              replace hf := obE hf
              obtain ⟨z341, hz341, hf⟩ := hf
              obtain ⟨r343, S342⟩ := z341
              replace hf := ltE (ltE hf r343 rfl) S342 rfl
              refine x_callS (As := [.ref (gen g 98), .int v9]) (rest := [.int r339]) (o := (some (.int r343))) (S1 := S342) hC hl.1 hW hS hGs hA (c_L_recipients l g adL nL KL H.size F S338 v0 v9 tv0 r343 S342 hz341) (va_cwS 2 hts gL_law_L_recipients rfl rfl rfl (by decide +kernel) ⟨Nat.le_of_ble_eq_true rfl, Nat.le_of_ble_eq_true rfl⟩) rfl rfl (Nat.le_of_ble_eq_true rfl) dL_law_464 ⟨show cs ≤ room_1.cells from rc_le (by omega), show ss ≤ room_1.slots from rs_le (by omega)⟩ (fun H locs hPz341 hW hS => ?_)
              refine W.eq (g2 := F0 m 467 ls [.int r343, .int r339]) rfl ?_
              refine lv_iload hx hb dL_law_467 (lv_at hl 10 rfl) ?_
              refine lv_iconst (v := -1) hx hb dL_law_469 (by decide) ?_
              refine lv_ixor hx hb dL_law_470 ?_
              refine lv_iand hx hb dL_law_471 ?_
              refine lv_icmp_ne (tgt := 518) hx hb dL_law_472 (by decide) (fun c345 => ?_) (fun c345 => ?_)
              · replace hf := ifT c345 hf
                refine lv_iconst (v := 0) hx hb dL_law_518 (by decide) ?_
                exact absurd (Prod.mk.inj (Option.some.inj hf)).1 (by decide)
              · replace hf := ifF (fun q => q c345) hf
                refine lv_aload_n hx hb dL_law_475 rfl (lv_at hl 1 rfl) ?_
                refine lv_iload hx hb dL_law_476 (lv_at hl 11 rfl) ?_
                refine lv_iconst (v := 3) hx hb dL_law_478 (by decide) ?_
                replace hf := obE hf
                obtain ⟨z346, hz346, hf⟩ := hf
                obtain ⟨oz346, S347⟩ := z346
                replace hf := ltE hf S347 rfl
                cases oz346 with
                | inl x =>
                  replace hf := smL rfl hf
                  cases hf
                | inr r348 =>
                  replace hf := smR rfl hf
                  refine x_callV (As := [.int v11, .int 3]) (rest := []) (o := (some (.int r348))) (S1 := S347) (P := True) hC hl.1 hW hS hGs hA tv1 rfl (show vwCl[9]? = some (RX10, TX10, 11) ∧ ob 9 from ⟨rfl, by decide⟩) (c_X10_message l g adL nL KL H.size F S342 v1 v11 ((3 : Int32)) tv1 r348 S347 hz346) (cwV 2 hts gL_law_X10_message rfl rfl rfl (by decide +kernel) ⟨Nat.le_of_ble_eq_true rfl, Nat.le_of_ble_eq_true rfl⟩) rfl rfl (Nat.le_of_ble_eq_true rfl) dL_law_479 ⟨show cs ≤ room_1.cells from rc_le (by omega), show ss ≤ room_1.slots from rs_le (by omega)⟩ (fun H locs hPz346 hW hS => ?_)
                  refine W.eq (g2 := F0 m 482 ls [.int r348]) rfl ?_
                  refine lv_aload_n hx hb dL_law_482 rfl (lv_at hl 0 rfl) ?_
                  refine lv_iload hx hb dL_law_483 (lv_at hl 9 rfl) ?_
                  replace hf := obE hf
                  obtain ⟨z350, hz350, hf⟩ := hf
                  obtain ⟨r352, S351⟩ := z350
                  replace hf := ltE (ltE hf r352 rfl) S351 rfl
                  refine x_callS (As := [.ref (gen g 98), .int v9]) (rest := [.int r348]) (o := (some (.int r352))) (S1 := S351) hC hl.1 hW hS hGs hA (c_L_size l g adL nL KL H.size F S347 v0 v9 tv0 r352 S351 hz350) (va_cwS 2 hts gL_law_L_size rfl rfl rfl (by decide +kernel) ⟨Nat.le_of_ble_eq_true rfl, Nat.le_of_ble_eq_true rfl⟩) rfl rfl (Nat.le_of_ble_eq_true rfl) dL_law_485 ⟨show cs ≤ room_1.cells from rc_le (by omega), show ss ≤ room_1.slots from rs_le (by omega)⟩ (fun H locs hPz350 hW hS => ?_)
                  refine W.eq (g2 := F0 m 488 ls [.int r352, .int r348]) rfl ?_
                  refine lv_icmp_ne (tgt := 518) hx hb dL_law_488 (by decide) (fun c354 => ?_) (fun c354 => ?_)
                  · replace hf := ifT c354 hf
                    refine lv_iconst (v := 0) hx hb dL_law_518 (by decide) ?_
                    exact absurd (Prod.mk.inj (Option.some.inj hf)).1 (by decide)
                  · replace hf := ifF (fun q => q c354) hf
                    refine lv_aload_n hx hb dL_law_491 rfl (lv_at hl 1 rfl) ?_
                    refine lv_iload hx hb dL_law_492 (lv_at hl 11 rfl) ?_
                    refine lv_iconst (v := 2) hx hb dL_law_494 (by decide) ?_
                    replace hf := obE hf
                    obtain ⟨z355, hz355, hf⟩ := hf
                    obtain ⟨oz355, S356⟩ := z355
                    replace hf := ltE hf S356 rfl
                    cases oz355 with
                    | inl x =>
                      replace hf := smL rfl hf
                      cases hf
                    | inr r357 =>
                      replace hf := smR rfl hf
                      refine x_callV (As := [.int v11, .int 2]) (rest := []) (o := (some (.int r357))) (S1 := S356) (P := True) hC hl.1 hW hS hGs hA tv1 rfl (show vwCl[9]? = some (RX10, TX10, 11) ∧ ob 9 from ⟨rfl, by decide⟩) (c_X10_message l g adL nL KL H.size F S351 v1 v11 ((2 : Int32)) tv1 r357 S356 hz355) (cwV 2 hts gL_law_X10_message rfl rfl rfl (by decide +kernel) ⟨Nat.le_of_ble_eq_true rfl, Nat.le_of_ble_eq_true rfl⟩) rfl rfl (Nat.le_of_ble_eq_true rfl) dL_law_495 ⟨show cs ≤ room_1.cells from rc_le (by omega), show ss ≤ room_1.slots from rs_le (by omega)⟩ (fun H locs hPz355 hW hS => ?_)
                      refine W.eq (g2 := F0 m 498 ls [.int r357]) rfl ?_
                      refine lv_aload_n hx hb dL_law_498 rfl (lv_at hl 0 rfl) ?_
                      refine lv_iload hx hb dL_law_499 (lv_at hl 9 rfl) ?_
                      replace hf := obE hf
                      obtain ⟨z359, hz359, hf⟩ := hf
                      obtain ⟨r361, S360⟩ := z359
                      replace hf := ltE (ltE hf r361 rfl) S360 rfl
                      refine x_callS (As := [.ref (gen g 98), .int v9]) (rest := [.int r357]) (o := (some (.int r361))) (S1 := S360) hC hl.1 hW hS hGs hA (c_L_parts l g adL nL KL H.size F S356 v0 v9 tv0 r361 S360 hz359) (va_cwS 2 hts gL_law_L_parts rfl rfl rfl (by decide +kernel) ⟨Nat.le_of_ble_eq_true rfl, Nat.le_of_ble_eq_true rfl⟩) rfl rfl (Nat.le_of_ble_eq_true rfl) dL_law_501 ⟨show cs ≤ room_1.cells from rc_le (by omega), show ss ≤ room_1.slots from rs_le (by omega)⟩ (fun H locs hPz359 hW hS => ?_)
                      refine W.eq (g2 := F0 m 504 ls [.int r361, .int r357]) rfl ?_
                      refine lv_icmp_ne (tgt := 518) hx hb dL_law_504 (by decide) (fun c363 => ?_) (fun c363 => ?_)
                      · replace hf := ifT c363 hf
                        refine lv_iconst (v := 0) hx hb dL_law_518 (by decide) ?_
                        exact absurd (Prod.mk.inj (Option.some.inj hf)).1 (by decide)
                      · replace hf := ifF (fun q => q c363) hf
                        refine lv_aload_n hx hb dL_law_507 rfl (lv_at hl 1 rfl) ?_
                        refine lv_iload hx hb dL_law_508 (lv_at hl 11 rfl) ?_
                        refine lv_iconst (v := 4) hx hb dL_law_510 (by decide) ?_
                        replace hf := obE hf
                        obtain ⟨z364, hz364, hf⟩ := hf
                        obtain ⟨oz364, S365⟩ := z364
                        replace hf := ltE hf S365 rfl
                        cases oz364 with
                        | inl x =>
                          replace hf := smL rfl hf
                          cases hf
                        | inr r366 =>
                          replace hf := smR rfl hf
                          refine x_callV (As := [.int v11, .int 4]) (rest := []) (o := (some (.int r366))) (S1 := S365) (P := True) hC hl.1 hW hS hGs hA tv1 rfl (show vwCl[9]? = some (RX10, TX10, 11) ∧ ob 9 from ⟨rfl, by decide⟩) (c_X10_message l g adL nL KL H.size F S360 v1 v11 ((4 : Int32)) tv1 r366 S365 hz364) (cwV 2 hts gL_law_X10_message rfl rfl rfl (by decide +kernel) ⟨Nat.le_of_ble_eq_true rfl, Nat.le_of_ble_eq_true rfl⟩) rfl rfl (Nat.le_of_ble_eq_true rfl) dL_law_511 ⟨show cs ≤ room_1.cells from rc_le (by omega), show ss ≤ room_1.slots from rs_le (by omega)⟩ (fun H locs hPz364 hW hS => ?_)
                          refine W.eq (g2 := F0 m 514 ls [.int r366]) rfl ?_
                          refine lv_iconst (v := 1) hx hb dL_law_514 (by decide) ?_
                          refine lv_icmp_eq (tgt := 520) hx hb dL_law_515 (by decide) (fun c368 => ?_) (fun c368 => ?_)
                          · replace hf := ifT c368 hf
                            obtain ⟨x369, ex369⟩ : ∃ z : Int32, z = v7 + 1 := ⟨_, rfl⟩
                            replace hf := ltE hf x369 ex369
                            refine lv_iinc (v := x369) (lv' := [(7, .int x369), (0, .ref (gen g 98)), (1, .ref (adL v1)), (2, .ref (adL v2)), (3, .ref (adL v3)), (4, .ref (adL v4)), (5, .int v5), (6, .int v6), (8, .int v8), (9, .int v9), (10, .int v10), (11, .int v11), (12, .int v12)]) hx hb dL_law_520 hl (k := 7) rfl (by rw [ex369]; rfl) (by decide) rfl (fun ls hl => ?_)
                            exact L523 adL KL nL hagL cs ss (by omega) (by omega) S365 v0 v1 v2 v3 v4 v5 v6 x369 v8 v9 tv0 tv1 tv2 tv3 tv4 _ _ _ hf hW hS (lv_sub hl [1, 2, 3, 4, 5, 6, 7, 0, 8, 9] rfl)
                          · replace hf := ifF c368 hf
                            refine lv_iconst (v := 0) hx hb dL_law_518 (by decide) ?_
                            exact absurd (Prod.mk.inj (Option.some.inj hf)).1 (by decide)
          · replace hf := ifF c336 hf
            refine lv_aload_n hx hb dL_law_309 rfl (lv_at hl 0 rfl) ?_
            refine lv_iload hx hb dL_law_310 (lv_at hl 9 rfl) ?_
            replace hf := obE hf
            obtain ⟨z370, hz370, hf⟩ := hf
            obtain ⟨r372, S371⟩ := z370
            replace hf := ltE (ltE hf r372 rfl) S371 rfl
            refine x_callS (As := [.ref (gen g 98), .int v9]) (rest := []) (o := (some (.int r372))) (S1 := S371) hC hl.1 hW hS hGs hA (c_L_recipients l g adL nL KL H.size F S333 v0 v9 tv0 r372 S371 hz370) (va_cwS 2 hts gL_law_L_recipients rfl rfl rfl (by decide +kernel) ⟨Nat.le_of_ble_eq_true rfl, Nat.le_of_ble_eq_true rfl⟩) rfl rfl (Nat.le_of_ble_eq_true rfl) dL_law_312 ⟨show cs ≤ room_1.cells from rc_le (by omega), show ss ≤ room_1.slots from rs_le (by omega)⟩ (fun H locs hPz370 hW hS => ?_)
            refine W.eq (g2 := F0 m 315 ls [.int r372]) rfl ?_
            refine lv_iload hx hb dL_law_315 (lv_at hl 10 rfl) ?_
            refine lv_iconst (v := -1) hx hb dL_law_317 (by decide) ?_
            refine lv_ixor hx hb dL_law_318 ?_
            refine lv_iand hx hb dL_law_319 ?_
            refine lv_iload hx hb dL_law_320 (lv_at hl 12 rfl) ?_
            refine lv_ishr hx hb dL_law_322 ?_
            refine lv_iconst (v := 1) hx hb dL_law_323 (by decide) ?_
            refine lv_iand hx hb dL_law_324 ?_
            refine lv_iconst (v := 1) hx hb dL_law_325 (by decide) ?_
            refine lv_icmp_ne (tgt := 333) hx hb dL_law_326 (by decide) (fun c374 => ?_) (fun c374 => ?_)
            · replace hf := ifT c374 hf
              refine lv_iconst (v := 0) hx hb dL_law_333 (by decide) ?_
              exact L334 adL KL nL hagL cs ss (by omega) (by omega) S371 v0 v1 v2 v3 v4 v5 v6 v7 v8 v9 v10 v11 v12 0 tv0 tv1 tv2 tv3 tv4 _ _ _ hf hW hS (lv_sub hl [0, 1, 2, 3, 4, 5, 6, 7, 8, 9, 10, 11, 12] rfl)
            · replace hf := ifF (fun q => q c374) hf
              refine lv_iconst (v := 1) hx hb dL_law_329 (by decide) ?_
              refine lv_goto (tgt := 334) hx hb dL_law_330 (by decide) ?_
              exact L334 adL KL nL hagL cs ss (by omega) (by omega) S371 v0 v1 v2 v3 v4 v5 v6 v7 v8 v9 v10 v11 v12 1 tv0 tv1 tv2 tv3 tv4 _ _ _ hf hW hS (lv_sub hl [0, 1, 2, 3, 4, 5, 6, 7, 8, 9, 10, 11, 12] rfl)
      have L224 : ∀ (fu224 : Nat) (adL KL : Nat → Nat) (nL : Nat) (hagL : Ag ad K n adL KL nL) (cs ss : Nat) (hcs : cs + (0 + (fu77 * 25 + 0)) ≤ 1315) (hss : ss + (0 + (fu77 * 20537 + 0)) ≤ 637514) (S0 : St) (v0 : XS) (v1 : Nat) (v2 : Nat) (v3 : Nat) (v4 : Nat) (v5 : Int32) (v6 : Int32) (v7 : Int32) (v8 : Int32) (v9 : Int32) (v10 : Int32) (v11 : Int32) (v12 : Int32) (tv0 : v0 = gX g) (tv1 : v1 < nL ∧ KL v1 = 9) (tv2 : v2 < nL ∧ KL v2 = 12) (tv3 : v3 < nL ∧ KL v3 = 12) (tv4 : v4 < nL ∧ KL v4 = 12) (H : Heap) (locs : List Loc) (ls : Array Slot), f_L_law_L224 F (fun a0 a1 a2 a3 a4 a5 a6 a7 a8 a9 a10 a11 => f_L_law_L77 F fu77 a0 a1 a2 a3 a4 a5 a6 a7 a8 a9 a10 a11) fu224 S0 nL v0 v1 v2 v3 v4 v5 v6 v7 v8 v9 v10 v11 v12 = some (1, S9, n9) → Wb g adL nL KL S0 (dA ad n s.heap.size) H → va_S (dA ad n s.heap.size) s.heap H locs → lv_has ls 14 [(0, .ref (gen g 98)), (1, .ref (adL v1)), (2, .ref (adL v2)), (3, .ref (adL v3)), (4, .ref (adL v4)), (5, .int v5), (6, .int v6), (7, .int v7), (8, .int v8), (9, .int v9), (10, .int v10), (11, .int v11), (12, .int v12)] → W p l e room_1 s m #[Value.ref (gen g 98)] below meth c H locs cs ss (lw_Z below #[Value.ref (gen g 98)] s) (F0 m 224 ls []) := by
        intro fu224
        induction fu224 with
        | zero =>
          intro adL KL nL hagL cs ss hcs hss S0 v0 v1 v2 v3 v4 v5 v6 v7 v8 v9 v10 v11 v12 tv0 tv1 tv2 tv3 tv4 H locs ls hf
          cases hf
        | succ fu224 ih224 =>
          have L274 : ∀ (adL KL : Nat → Nat) (nL : Nat) (hagL : Ag ad K n adL KL nL) (cs ss : Nat) (hcs : cs + (0 + (fu77 * 25 + 0)) ≤ 1315) (hss : ss + (0 + (fu77 * 20537 + 0)) ≤ 637514) (S0 : St) (v0 : XS) (v1 : Nat) (v2 : Nat) (v3 : Nat) (v4 : Nat) (v5 : Int32) (v6 : Int32) (v7 : Int32) (v8 : Int32) (v9 : Int32) (v10 : Int32) (v11 : Int32) (v12 : Int32) (v13 : Int32) (tv0 : v0 = gX g) (tv1 : v1 < nL ∧ KL v1 = 9) (tv2 : v2 < nL ∧ KL v2 = 12) (tv3 : v3 < nL ∧ KL v3 = 12) (tv4 : v4 < nL ∧ KL v4 = 12) (H : Heap) (locs : List Loc) (ls : Array Slot), f_L_law_L274 F (fun a0 a1 a2 a3 a4 a5 a6 a7 a8 a9 a10 a11 => f_L_law_L77 F fu77 a0 a1 a2 a3 a4 a5 a6 a7 a8 a9 a10 a11) (fun a0 a1 a2 a3 a4 a5 a6 a7 a8 a9 a10 a11 a12 a13 a14 => f_L_law_L224 F (fun a0 a1 a2 a3 a4 a5 a6 a7 a8 a9 a10 a11 => f_L_law_L77 F fu77 a0 a1 a2 a3 a4 a5 a6 a7 a8 a9 a10 a11) fu224 a0 a1 a2 a3 a4 a5 a6 a7 a8 a9 a10 a11 a12 a13 a14) S0 nL v0 v1 v2 v3 v4 v5 v6 v7 v8 v9 v10 v11 v12 v13 = some (1, S9, n9) → Wb g adL nL KL S0 (dA ad n s.heap.size) H → va_S (dA ad n s.heap.size) s.heap H locs → lv_has ls 14 [(0, .ref (gen g 98)), (1, .ref (adL v1)), (2, .ref (adL v2)), (3, .ref (adL v3)), (4, .ref (adL v4)), (5, .int v5), (6, .int v6), (7, .int v7), (8, .int v8), (9, .int v9), (10, .int v10), (11, .int v11), (12, .int v12), (13, .int v13)] → W p l e room_1 s m #[Value.ref (gen g 98)] below meth c H locs cs ss (lw_Z below #[Value.ref (gen g 98)] s) (F0 m 274 ls []) := by
            intro adL KL nL hagL cs ss hcs hss S0 v0 v1 v2 v3 v4 v5 v6 v7 v8 v9 v10 v11 v12 v13 tv0 tv1 tv2 tv3 tv4 H locs ls hf hW hS hl
            unfold f_L_law_L274 at hf
            refine lv_aload_n hx hb dL_law_274 rfl (lv_at hl 1 rfl) ?_
            refine lv_iload hx hb dL_law_275 (lv_at hl 11 rfl) ?_
            refine lv_iload hx hb dL_law_277 (lv_at hl 12 rfl) ?_
            replace hf := obE hf
            obtain ⟨z382, hz382, hf⟩ := hf
            obtain ⟨oz382, S383⟩ := z382
            replace hf := ltE hf S383 rfl
            cases oz382 with
            | inl x =>
              replace hf := smL rfl hf
              cases hf
            | inr r384 =>
              replace hf := smR rfl hf
              refine x_callV (As := [.int v11, .int v12]) (rest := []) (o := (some (.int r384))) (S1 := S383) (P := True) hC hl.1 hW hS hGs hA tv1 rfl (show vwCl[9]? = some (RX10, TX10, 11) ∧ ob 9 from ⟨rfl, by decide⟩) (c_X10_partOf l g adL nL KL H.size F S0 v1 v11 v12 tv1 r384 S383 hz382) (cwV 2 hts gL_law_X10_partOf rfl rfl rfl (by decide +kernel) ⟨Nat.le_of_ble_eq_true rfl, Nat.le_of_ble_eq_true rfl⟩) rfl rfl (Nat.le_of_ble_eq_true rfl) dL_law_279 ⟨show cs ≤ room_1.cells from rc_le (by omega), show ss ≤ room_1.slots from rs_le (by omega)⟩ (fun H locs hPz382 hW hS => ?_)
              refine W.eq (g2 := F0 m 282 ls [.int r384]) rfl ?_
              refine lv_aload_n hx hb dL_law_282 rfl (lv_at hl 2 rfl) ?_
              refine lv_iload hx hb dL_law_283 (lv_at hl 13 rfl) ?_
              replace hf := ckiE hf
              obtain ⟨h386, hf⟩ := hf
              refine x_iald hC hW tv2 rfl rfl h386 dL_law_285 ?_
              refine lv_icmp_eq (tgt := 291) hx hb dL_law_286 (by decide) (fun c387 => ?_) (fun c387 => ?_)
              · replace hf := ifT c387 hf
                obtain ⟨x388, ex388⟩ : ∃ z : Int32, z = v12 + 1 := ⟨_, rfl⟩
                replace hf := ltE hf x388 ex388
                refine lv_iinc (v := x388) (lv' := [(12, .int x388), (0, .ref (gen g 98)), (1, .ref (adL v1)), (2, .ref (adL v2)), (3, .ref (adL v3)), (4, .ref (adL v4)), (5, .int v5), (6, .int v6), (7, .int v7), (8, .int v8), (9, .int v9), (10, .int v10), (11, .int v11), (13, .int v13)]) hx hb dL_law_291 hl (k := 12) rfl (by rw [ex388]; rfl) (by decide) rfl (fun ls hl => ?_)
                refine lv_goto (tgt := 224) hx hb dL_law_294 (by decide) ?_
                exact ih224 adL KL nL hagL cs ss (by omega) (by omega) S383 v0 v1 v2 v3 v4 v5 v6 v7 v8 v9 v10 v11 x388 tv0 tv1 tv2 tv3 tv4 _ _ _ hf hW hS (lv_sub hl [1, 2, 3, 4, 5, 6, 7, 8, 9, 10, 11, 12, 0] rfl)
              · replace hf := ifF c387 hf
                refine lv_iconst (v := 0) hx hb dL_law_289 (by decide) ?_
                exact absurd (Prod.mk.inj (Option.some.inj hf)).1 (by decide)
          intro adL KL nL hagL cs ss hcs hss S0 v0 v1 v2 v3 v4 v5 v6 v7 v8 v9 v10 v11 v12 tv0 tv1 tv2 tv3 tv4 H locs ls hf hW hS hl
          unfold f_L_law_L224 at hf
          refine lv_iload hx hb dL_law_224 (lv_at hl 12 rfl) ?_
          refine lv_aload_n hx hb dL_law_226 rfl (lv_at hl 0 rfl) ?_
          refine lv_iload hx hb dL_law_227 (lv_at hl 9 rfl) ?_
          replace hf := obE hf
          obtain ⟨z412, hz412, hf⟩ := hf
          obtain ⟨r414, S413⟩ := z412
          replace hf := ltE (ltE hf r414 rfl) S413 rfl
          refine x_callS (As := [.ref (gen g 98), .int v9]) (rest := [.int v12]) (o := (some (.int r414))) (S1 := S413) hC hl.1 hW hS hGs hA (c_L_parts l g adL nL KL H.size F S0 v0 v9 tv0 r414 S413 hz412) (va_cwS 2 hts gL_law_L_parts rfl rfl rfl (by decide +kernel) ⟨Nat.le_of_ble_eq_true rfl, Nat.le_of_ble_eq_true rfl⟩) rfl rfl (Nat.le_of_ble_eq_true rfl) dL_law_229 ⟨show cs ≤ room_1.cells from rc_le (by omega), show ss ≤ room_1.slots from rs_le (by omega)⟩ (fun H locs hPz412 hW hS => ?_)
          refine W.eq (g2 := F0 m 232 ls [.int r414, .int v12]) rfl ?_
          refine lv_icmp_ge (tgt := 297) hx hb dL_law_232 (by decide) (fun c416 => ?_) (fun c416 => ?_)
          · replace hf := ifT c416 hf
            refine lv_iconst (v := 0) hx hb dL_law_297 (by decide) ?_
            refine lv_istore (lv' := [(12, .int 0), (0, .ref (gen g 98)), (1, .ref (adL v1)), (2, .ref (adL v2)), (3, .ref (adL v3)), (4, .ref (adL v4)), (5, .int v5), (6, .int v6), (7, .int v7), (8, .int v8), (9, .int v9), (10, .int v10), (11, .int v11)]) hx hb dL_law_298 hl (by decide) rfl (fun ls hl => ?_)
            exact L300 F adL KL nL hagL cs ss (by omega) (by omega) S413 v0 v1 v2 v3 v4 v5 v6 v7 v8 v9 v10 v11 0 tv0 tv1 tv2 tv3 tv4 _ _ _ hf hW hS (lv_sub hl [1, 2, 3, 4, 5, 6, 7, 8, 9, 10, 11, 12, 0] rfl)
          · replace hf := ifF c416 hf
            refine lv_aload_n hx hb dL_law_235 rfl (lv_at hl 0 rfl) ?_
            refine lv_iload hx hb dL_law_236 (lv_at hl 9 rfl) ?_
            refine lv_iload hx hb dL_law_238 (lv_at hl 12 rfl) ?_
            replace hf := obE hf
            obtain ⟨z417, hz417, hf⟩ := hf
            obtain ⟨r419, S418⟩ := z417
            replace hf := ltE (ltE hf r419 rfl) S418 rfl
            refine x_callS (As := [.ref (gen g 98), .int v9, .int v12]) (rest := []) (o := (some (.int r419))) (S1 := S418) hC hl.1 hW hS hGs hA (c_L_sort l g adL nL KL H.size F S413 v0 v9 v12 tv0 r419 S418 hz417) (va_cwS 3 hts gL_law_L_sort rfl rfl rfl (by decide +kernel) ⟨Nat.le_of_ble_eq_true rfl, Nat.le_of_ble_eq_true rfl⟩) rfl rfl (Nat.le_of_ble_eq_true rfl) dL_law_240 ⟨show cs ≤ room_1.cells from rc_le (by omega), show ss ≤ room_1.slots from rs_le (by omega)⟩ (fun H locs hPz417 hW hS => ?_)
            refine W.eq (g2 := F0 m 243 ls [.int r419]) rfl ?_
            refine lv_istore (lv' := [(13, .int r419), (0, .ref (gen g 98)), (1, .ref (adL v1)), (2, .ref (adL v2)), (3, .ref (adL v3)), (4, .ref (adL v4)), (5, .int v5), (6, .int v6), (7, .int v7), (8, .int v8), (9, .int v9), (10, .int v10), (11, .int v11), (12, .int v12)]) hx hb dL_law_243 hl (by decide) rfl (fun ls hl => ?_)
            refine lv_aload_n hx hb dL_law_245 rfl (lv_at hl 3 rfl) ?_
            refine lv_iload hx hb dL_law_246 (lv_at hl 0 rfl) ?_
            replace hf := ckiE hf
            obtain ⟨h421, hf⟩ := hf
            refine x_iald hC hW tv2 rfl rfl h421 dL_law_248 ?_
            refine lv_if_ge (tgt := 274) hx hb dL_law_249 (by decide) (fun c422 => ?_) (fun c422 => ?_)
            · replace hf := ifT c422 hf
              exact L274 adL KL nL hagL cs ss (by omega) (by omega) S418 v0 v1 v2 v3 v4 v5 v6 v7 v8 v9 v10 v11 v12 r419 tv0 tv1 tv2 tv3 tv4 _ _ _ hf hW hS (lv_sub hl [1, 2, 3, 4, 5, 6, 7, 8, 9, 10, 11, 12, 13, 0] rfl)
            · replace hf := ifF c422 hf
              refine lv_aload_n hx hb dL_law_252 rfl (lv_at hl 3 rfl) ?_
              refine lv_iload hx hb dL_law_253 (lv_at hl 0 rfl) ?_
              refine lv_iload hx hb dL_law_255 (lv_at hl 6 rfl) ?_
              replace hf := ckiE hf
              obtain ⟨h423, hf⟩ := hf
              refine x_iast hC hW hS tv2 rfl rfl h423 dL_law_257 (fun S424 H locs eS424 hW hS => ?_)
              replace hf := ltE hf S424 eS424
              obtain ⟨x425, ex425⟩ : ∃ z : Int32, z = v5 + 1 := ⟨_, rfl⟩
              replace hf := ltE hf x425 ex425
              refine lv_iinc (v := x425) (lv' := [(5, .int x425), (13, .int r419), (0, .ref (gen g 98)), (1, .ref (adL v1)), (2, .ref (adL v2)), (3, .ref (adL v3)), (4, .ref (adL v4)), (6, .int v6), (7, .int v7), (8, .int v8), (9, .int v9), (10, .int v10), (11, .int v11), (12, .int v12)]) hx hb dL_law_258 hl (k := 6) rfl (by rw [ex425]; rfl) (by decide) rfl (fun ls hl => ?_)
              refine lv_iload hx hb dL_law_261 (lv_at hl 7 rfl) ?_
              refine lv_iload hx hb dL_law_263 (lv_at hl 1 rfl) ?_
              replace hf := obE hf
              obtain ⟨z426, hz426, hf⟩ := hf
              obtain ⟨r428, S427⟩ := z426
              replace hf := ltE (ltE hf r428 rfl) S427 rfl
              refine x_callS (As := [.int r419]) (rest := [.int v6]) (o := (some (.ref (sad g adL r428)))) (S1 := S427) hC hl.1 hW hS hGs hA (c_L_part l g adL nL KL H.size F S424 r419 r428 S427 hz426) (va_cwS 1 hts gL_law_L_part rfl rfl rfl (by decide +kernel) ⟨Nat.le_of_ble_eq_true rfl, Nat.le_of_ble_eq_true rfl⟩) rfl rfl (Nat.le_of_ble_eq_true rfl) dL_law_265 ⟨show cs ≤ room_1.cells from rc_le (by omega), show ss ≤ room_1.slots from rs_le (by omega)⟩ (fun H locs hPz426 hW hS => ?_)
              refine W.eq (g2 := F0 m 268 ls [.ref ((sad g adL r428)), .int v6]) rfl ?_
              replace hf := obE hf
              obtain ⟨z430, hz430, hf⟩ := hf
              obtain ⟨r432, S431⟩ := z430
              replace hf := ltE (ltE hf r432 rfl) S431 rfl
              refine x_callVs (As := []) (rest := [.int v6]) (o := (some (.int r432))) (S1 := S431) hC hl.1 hW hS hGs hA hPz426 rfl (c_J0_length_8abf5 l g adL nL KL H.size F S427 r428 hPz426 r432 S431 hz430) (cwV 0 hts gL_law_J0_length_8abf5 rfl rfl rfl (by decide +kernel) ⟨Nat.le_of_ble_eq_true rfl, Nat.le_of_ble_eq_true rfl⟩) rfl rfl (Nat.le_of_ble_eq_true rfl) dL_law_268 ⟨show cs ≤ room_1.cells from rc_le (by omega), show ss ≤ room_1.slots from rs_le (by omega)⟩ (fun H locs hPz430 hW hS => ?_)
              refine W.eq (g2 := F0 m 271 ls [.int r432, .int v6]) rfl ?_
              refine lv_iadd hx hb dL_law_271 ?_
              refine lv_topi (fun x434 ex434 => ?_)
              replace hf := ltE hf x434 ex434
              refine lv_istore (lv' := [(6, .int x434), (5, .int x425), (13, .int r419), (0, .ref (gen g 98)), (1, .ref (adL v1)), (2, .ref (adL v2)), (3, .ref (adL v3)), (4, .ref (adL v4)), (7, .int v7), (8, .int v8), (9, .int v9), (10, .int v10), (11, .int v11), (12, .int v12)]) hx hb dL_law_272 hl (by decide) rfl (fun ls hl => ?_)
              exact L274 adL KL nL hagL cs ss (by omega) (by omega) S431 v0 v1 v2 v3 v4 x425 x434 v7 v8 v9 v10 v11 v12 r419 tv0 tv1 tv2 tv3 tv4 _ _ _ hf hW hS (lv_sub hl [3, 4, 5, 6, 7, 1, 0, 8, 9, 10, 11, 12, 13, 2] rfl)
      have L209 : ∀ (adL KL : Nat → Nat) (nL : Nat) (hagL : Ag ad K n adL KL nL) (cs ss : Nat) (hcs : cs + (0 + (fu77 * 25 + 0)) ≤ 1315) (hss : ss + (0 + (fu77 * 20537 + 0)) ≤ 637514) (S0 : St) (v0 : XS) (v1 : Nat) (v2 : Nat) (v3 : Nat) (v4 : Nat) (v5 : Int32) (v6 : Int32) (v7 : Int32) (v9 : Int32) (v10 : Int32) (v11 : Int32) (s0 : Int32) (s1 : Int32) (s2 : Int32) (tv0 : v0 = gX g) (tv1 : v1 < nL ∧ KL v1 = 9) (tv2 : v2 < nL ∧ KL v2 = 12) (tv3 : v3 < nL ∧ KL v3 = 12) (tv4 : v4 < nL ∧ KL v4 = 12) (H : Heap) (locs : List Loc) (ls : Array Slot), f_L_law_L209 F (fun a0 a1 a2 a3 a4 a5 a6 a7 a8 a9 a10 a11 => f_L_law_L77 F fu77 a0 a1 a2 a3 a4 a5 a6 a7 a8 a9 a10 a11) S0 nL v0 v1 v2 v3 v4 v5 v6 v7 v9 v10 v11 s0 s1 s2 = some (1, S9, n9) → Wb g adL nL KL S0 (dA ad n s.heap.size) H → va_S (dA ad n s.heap.size) s.heap H locs → lv_has ls 14 [(0, .ref (gen g 98)), (1, .ref (adL v1)), (2, .ref (adL v2)), (3, .ref (adL v3)), (4, .ref (adL v4)), (5, .int v5), (6, .int v6), (7, .int v7), (9, .int v9), (10, .int v10), (11, .int v11)] → W p l e room_1 s m #[Value.ref (gen g 98)] below meth c H locs cs ss (lw_Z below #[Value.ref (gen g 98)] s) (F0 m 209 ls [.int s0, .int s1, .int s2]) := by
        intro adL KL nL hagL cs ss hcs hss S0 v0 v1 v2 v3 v4 v5 v6 v7 v9 v10 v11 s0 s1 s2 tv0 tv1 tv2 tv3 tv4 H locs ls hf hW hS hl
        unfold f_L_law_L209 at hf
        refine lv_iadd hx hb dL_law_209 ?_
        refine lv_iadd hx hb dL_law_210 ?_
        refine lv_topi (fun x437 ex437 => ?_)
        replace hf := ltE hf x437 ex437
        refine lv_istore (lv' := [(8, .int x437), (0, .ref (gen g 98)), (1, .ref (adL v1)), (2, .ref (adL v2)), (3, .ref (adL v3)), (4, .ref (adL v4)), (5, .int v5), (6, .int v6), (7, .int v7), (9, .int v9), (10, .int v10), (11, .int v11)]) hx hb dL_law_211 hl (by decide) rfl (fun ls hl => ?_)
        refine lv_iload hx hb dL_law_213 (lv_at hl 11 rfl) ?_
        refine lv_if_ge (tgt := 221) hx hb dL_law_215 (by decide) (fun c438 => ?_) (fun c438 => ?_)
        · replace hf := ifT c438 hf
          refine lv_iconst (v := 0) hx hb dL_law_221 (by decide) ?_
          refine lv_istore (lv' := [(12, .int 0), (8, .int x437), (0, .ref (gen g 98)), (1, .ref (adL v1)), (2, .ref (adL v2)), (3, .ref (adL v3)), (4, .ref (adL v4)), (5, .int v5), (6, .int v6), (7, .int v7), (9, .int v9), (10, .int v10), (11, .int v11)]) hx hb dL_law_222 hl (by decide) rfl (fun ls hl => ?_)
          exact L224 F adL KL nL hagL cs ss (by omega) (by omega) S0 v0 v1 v2 v3 v4 v5 v6 v7 x437 v9 v10 v11 0 tv0 tv1 tv2 tv3 tv4 _ _ _ hf hW hS (lv_sub hl [2, 3, 4, 5, 6, 7, 8, 9, 1, 10, 11, 12, 0] rfl)
        · replace hf := ifF c438 hf
          refine lv_goto (tgt := 523) hx hb dL_law_218 (by decide) ?_
          exact L523 adL KL nL hagL cs ss (by omega) (by omega) S0 v0 v1 v2 v3 v4 v5 v6 v7 x437 v9 tv0 tv1 tv2 tv3 tv4 _ _ _ hf hW hS (lv_sub hl [1, 2, 3, 4, 5, 6, 7, 8, 0, 9] rfl)
      have L187 : ∀ (adL KL : Nat → Nat) (nL : Nat) (hagL : Ag ad K n adL KL nL) (cs ss : Nat) (hcs : cs + (0 + (fu77 * 25 + 0)) ≤ 1315) (hss : ss + (0 + (fu77 * 20537 + 0)) ≤ 637514) (S0 : St) (v0 : XS) (v1 : Nat) (v2 : Nat) (v3 : Nat) (v4 : Nat) (v5 : Int32) (v6 : Int32) (v7 : Int32) (v8 : Int32) (v9 : Int32) (v10 : Int32) (v11 : Int32) (s0 : Int32) (s1 : Int32) (tv0 : v0 = gX g) (tv1 : v1 < nL ∧ KL v1 = 9) (tv2 : v2 < nL ∧ KL v2 = 12) (tv3 : v3 < nL ∧ KL v3 = 12) (tv4 : v4 < nL ∧ KL v4 = 12) (H : Heap) (locs : List Loc) (ls : Array Slot), f_L_law_L187 F (fun a0 a1 a2 a3 a4 a5 a6 a7 a8 a9 a10 a11 => f_L_law_L77 F fu77 a0 a1 a2 a3 a4 a5 a6 a7 a8 a9 a10 a11) S0 nL v0 v1 v2 v3 v4 v5 v6 v7 v8 v9 v10 v11 s0 s1 = some (1, S9, n9) → Wb g adL nL KL S0 (dA ad n s.heap.size) H → va_S (dA ad n s.heap.size) s.heap H locs → lv_has ls 14 [(0, .ref (gen g 98)), (1, .ref (adL v1)), (2, .ref (adL v2)), (3, .ref (adL v3)), (4, .ref (adL v4)), (5, .int v5), (6, .int v6), (7, .int v7), (8, .int v8), (9, .int v9), (10, .int v10), (11, .int v11)] → W p l e room_1 s m #[Value.ref (gen g 98)] below meth c H locs cs ss (lw_Z below #[Value.ref (gen g 98)] s) (F0 m 187 ls [.int s0, .int s1]) := by
        intro adL KL nL hagL cs ss hcs hss S0 v0 v1 v2 v3 v4 v5 v6 v7 v8 v9 v10 v11 s0 s1 tv0 tv1 tv2 tv3 tv4 H locs ls hf hW hS hl
        unfold f_L_law_L187 at hf
        refine lv_icmp_eq (tgt := 192) hx hb dL_law_187 (by decide) (fun c445 => ?_) (fun c445 => ?_)
        · replace hf := ifT c445 hf
          refine lv_iload hx hb dL_law_192 (lv_at hl 8 rfl) ?_
          refine lv_iload hx hb dL_law_194 (lv_at hl 10 rfl) ?_
          replace hf := obE hf
          obtain ⟨z446, hz446, hf⟩ := hf
          obtain ⟨r448, S447⟩ := z446
          replace hf := ltE (ltE hf r448 rfl) S447 rfl
          refine x_callS (As := [.int v10]) (rest := [.int v8]) (o := (some (.int r448))) (S1 := S447) hC hl.1 hW hS hGs hA (c_J6_bitCount_0f7a4 l g adL nL KL H.size F S0 v10 r448 S447 hz446) (va_cwS 1 hts gL_law_J6_bitCount_0f7a4 rfl rfl rfl (by decide +kernel) ⟨Nat.le_of_ble_eq_true rfl, Nat.le_of_ble_eq_true rfl⟩) rfl rfl (Nat.le_of_ble_eq_true rfl) dL_law_196 ⟨show cs ≤ room_1.cells from rc_le (by omega), show ss ≤ room_1.slots from rs_le (by omega)⟩ (fun H locs hPz446 hW hS => ?_)
          refine W.eq (g2 := F0 m 199 ls [.int r448, .int v8]) rfl ?_
          refine lv_iload hx hb dL_law_199 (lv_at hl 11 rfl) ?_
          refine lv_if_ge (tgt := 208) hx hb dL_law_201 (by decide) (fun c450 => ?_) (fun c450 => ?_)
          · replace hf := ifT c450 hf
            refine lv_iconst (v := 1) hx hb dL_law_208 (by decide) ?_
            exact L209 adL KL nL hagL cs ss (by omega) (by omega) S447 v0 v1 v2 v3 v4 v5 v6 v7 v9 v10 v11 1 r448 v8 tv0 tv1 tv2 tv3 tv4 _ _ _ hf hW hS (lv_sub hl [0, 1, 2, 3, 4, 5, 6, 7, 9, 10, 11] rfl)
          · replace hf := ifF c450 hf
            refine lv_iconst (v := 0) hx hb dL_law_204 (by decide) ?_
            refine lv_goto (tgt := 209) hx hb dL_law_205 (by decide) ?_
            exact L209 adL KL nL hagL cs ss (by omega) (by omega) S447 v0 v1 v2 v3 v4 v5 v6 v7 v9 v10 v11 0 r448 v8 tv0 tv1 tv2 tv3 tv4 _ _ _ hf hW hS (lv_sub hl [0, 1, 2, 3, 4, 5, 6, 7, 9, 10, 11] rfl)
        · replace hf := ifF c445 hf
          refine lv_iconst (v := 0) hx hb dL_law_190 (by decide) ?_
          exact absurd (Prod.mk.inj (Option.some.inj hf)).1 (by decide)
      have L90 : ∀ (fu90 : Nat) (adL KL : Nat → Nat) (nL : Nat) (hagL : Ag ad K n adL KL nL) (cs ss : Nat) (hcs : cs + (25 + (fu77 * 25 + 0)) ≤ 1315) (hss : ss + (20537 + (fu77 * 20537 + 0)) ≤ 637514) (S0 : St) (v0 : XS) (v1 : Nat) (v2 : Nat) (v3 : Nat) (v4 : Nat) (v5 : Int32) (v6 : Int32) (v7 : Int32) (v8 : Int32) (v9 : Int32) (v10 : Int32) (v11 : Int32) (tv0 : v0 = gX g) (tv1 : v1 < nL ∧ KL v1 = 9) (tv2 : v2 < nL ∧ KL v2 = 12) (tv3 : v3 < nL ∧ KL v3 = 12) (tv4 : v4 < nL ∧ KL v4 = 12) (H : Heap) (locs : List Loc) (ls : Array Slot), f_L_law_L90 F (fun a0 a1 a2 a3 a4 a5 a6 a7 a8 a9 a10 a11 => f_L_law_L77 F fu77 a0 a1 a2 a3 a4 a5 a6 a7 a8 a9 a10 a11) fu90 S0 nL v0 v1 v2 v3 v4 v5 v6 v7 v8 v9 v10 v11 = some (1, S9, n9) → Wb g adL nL KL S0 (dA ad n s.heap.size) H → va_S (dA ad n s.heap.size) s.heap H locs → lv_has ls 14 [(0, .ref (gen g 98)), (1, .ref (adL v1)), (2, .ref (adL v2)), (3, .ref (adL v3)), (4, .ref (adL v4)), (5, .int v5), (6, .int v6), (7, .int v7), (8, .int v8), (9, .int v9), (10, .int v10), (11, .int v11)] → W p l e room_1 s m #[Value.ref (gen g 98)] below meth c H locs cs ss (lw_Z below #[Value.ref (gen g 98)] s) (F0 m 90 ls []) := by
        intro fu90
        induction fu90 with
        | zero =>
          intro adL KL nL hagL cs ss hcs hss S0 v0 v1 v2 v3 v4 v5 v6 v7 v8 v9 v10 v11 tv0 tv1 tv2 tv3 tv4 H locs ls hf
          cases hf
        | succ fu90 ih90 =>
          have L143 : ∀ (adL KL : Nat → Nat) (nL : Nat) (hagL : Ag ad K n adL KL nL) (cs ss : Nat) (hcs : cs + (25 + (fu77 * 25 + 0)) ≤ 1315) (hss : ss + (20537 + (fu77 * 20537 + 0)) ≤ 637514) (S0 : St) (v0 : XS) (v1 : Nat) (v2 : Nat) (v3 : Nat) (v4 : Nat) (v5 : Int32) (v6 : Int32) (v7 : Int32) (v8 : Int32) (v9 : Int32) (v10 : Int32) (v11 : Int32) (tv0 : v0 = gX g) (tv1 : v1 < nL ∧ KL v1 = 9) (tv2 : v2 < nL ∧ KL v2 = 12) (tv3 : v3 < nL ∧ KL v3 = 12) (tv4 : v4 < nL ∧ KL v4 = 12) (H : Heap) (locs : List Loc) (ls : Array Slot), f_L_law_L143 F (fun a0 a1 a2 a3 a4 a5 a6 a7 a8 a9 a10 a11 => f_L_law_L77 F fu77 a0 a1 a2 a3 a4 a5 a6 a7 a8 a9 a10 a11) (fun a0 a1 a2 a3 a4 a5 a6 a7 a8 a9 a10 a11 a12 a13 => f_L_law_L90 F (fun a0 a1 a2 a3 a4 a5 a6 a7 a8 a9 a10 a11 => f_L_law_L77 F fu77 a0 a1 a2 a3 a4 a5 a6 a7 a8 a9 a10 a11) fu90 a0 a1 a2 a3 a4 a5 a6 a7 a8 a9 a10 a11 a12 a13) S0 nL v0 v1 v2 v3 v4 v5 v6 v7 v8 v9 v10 v11 = some (1, S9, n9) → Wb g adL nL KL S0 (dA ad n s.heap.size) H → va_S (dA ad n s.heap.size) s.heap H locs → lv_has ls 14 [(0, .ref (gen g 98)), (1, .ref (adL v1)), (2, .ref (adL v2)), (3, .ref (adL v3)), (4, .ref (adL v4)), (5, .int v5), (6, .int v6), (7, .int v7), (8, .int v8), (9, .int v9), (10, .int v10), (11, .int v11)] → W p l e room_1 s m #[Value.ref (gen g 98)] below meth c H locs cs ss (lw_Z below #[Value.ref (gen g 98)] s) (F0 m 143 ls []) := by
            intro adL KL nL hagL cs ss hcs hss S0 v0 v1 v2 v3 v4 v5 v6 v7 v8 v9 v10 v11 tv0 tv1 tv2 tv3 tv4 H locs ls hf hW hS hl
            unfold f_L_law_L143 at hf
            obtain ⟨x452, ex452⟩ : ∃ z : Int32, z = v11 + 1 := ⟨_, rfl⟩
            replace hf := ltE hf x452 ex452
            refine lv_iinc (v := x452) (lv' := [(11, .int x452), (0, .ref (gen g 98)), (1, .ref (adL v1)), (2, .ref (adL v2)), (3, .ref (adL v3)), (4, .ref (adL v4)), (5, .int v5), (6, .int v6), (7, .int v7), (8, .int v8), (9, .int v9), (10, .int v10)]) hx hb dL_law_143 hl (k := 11) rfl (by rw [ex452]; rfl) (by decide) rfl (fun ls hl => ?_)
            refine lv_goto (tgt := 90) hx hb dL_law_146 (by decide) ?_
            exact ih90 adL KL nL hagL cs ss (by omega) (by omega) S0 v0 v1 v2 v3 v4 v5 v6 v7 v8 v9 v10 x452 tv0 tv1 tv2 tv3 tv4 _ _ _ hf hW hS (lv_sub hl [1, 2, 3, 4, 5, 6, 7, 8, 9, 10, 11, 0] rfl)
          intro adL KL nL hagL cs ss hcs hss S0 v0 v1 v2 v3 v4 v5 v6 v7 v8 v9 v10 v11 tv0 tv1 tv2 tv3 tv4 H locs ls hf hW hS hl
          unfold f_L_law_L90 at hf
          refine lv_iload hx hb dL_law_90 (lv_at hl 11 rfl) ?_
          refine lv_aload_n hx hb dL_law_92 rfl (lv_at hl 0 rfl) ?_
          replace hf := obE hf
          obtain ⟨z500, hz500, hf⟩ := hf
          obtain ⟨r502, S501⟩ := z500
          replace hf := ltE (ltE hf r502 rfl) S501 rfl
          refine x_callS (As := [.ref (gen g 98)]) (rest := [.int v11]) (o := (some (.int r502))) (S1 := S501) hC hl.1 hW hS hGs hA (c_L_users l g adL nL KL H.size F S0 v0 tv0 r502 S501 hz500) (va_cwS 1 hts gL_law_L_users rfl rfl rfl (by decide +kernel) ⟨Nat.le_of_ble_eq_true rfl, Nat.le_of_ble_eq_true rfl⟩) rfl rfl (Nat.le_of_ble_eq_true rfl) dL_law_93 ⟨show cs ≤ room_1.cells from rc_le (by omega), show ss ≤ room_1.slots from rs_le (by omega)⟩ (fun H locs hPz500 hW hS => ?_)
          refine W.eq (g2 := F0 m 96 ls [.int r502, .int v11]) rfl ?_
          refine lv_icmp_ge (tgt := 149) hx hb dL_law_96 (by decide) (fun c504 => ?_) (fun c504 => ?_)
          · replace hf := ifT c504 hf
            refine lv_aload_n hx hb dL_law_149 rfl (lv_at hl 1 rfl) ?_
            refine lv_aload_n hx hb dL_law_150 rfl (lv_at hl 0 rfl) ?_
            refine lv_iload hx hb dL_law_151 (lv_at hl 9 rfl) ?_
            replace hf := obE hf
            obtain ⟨z505, hz505, hf⟩ := hf
            obtain ⟨r507, S506, n508⟩ := z505
            replace hf := ltE (ltE (ltE hf r507 rfl) S506 rfl) n508 rfl
            refine x_acallS (As := [.ref (adL v1), .ref (gen g 98), .int v9]) (rest := []) (S1 := S506) (n1 := n508) (o := (fun _ => some (.int r507))) (P := (fun _ => True)) hC hl.1 hW hS hGs hA (c_L_deliver l g adL nL KL H.size F S501 v1 v0 v9 tv1 tv0 r507 S506 n508 hz505) (va_cwS 3 hts gL_law_L_deliver rfl rfl rfl (by decide +kernel) ⟨Nat.le_of_ble_eq_true rfl, Nat.le_of_ble_eq_true rfl⟩) rfl rfl (Nat.le_of_ble_eq_true rfl) dL_law_153 ⟨(show cs + 25 ≤ room_1.cells from rc_le (by omega)), (show ss + 20537 ≤ room_1.slots from rs_le (by omega))⟩ (fun ad509 K510 H locs hag511 hPz505 hW hS => ?_)
            have g512 := hag511.t tv1
            have g513 := hag511.e tv1 rfl
            have g514 := hag511.t tv2
            have g515 := hag511.e tv2 rfl
            have g516 := hag511.t tv3
            have g517 := hag511.e tv3 rfl
            have g518 := hag511.t tv4
            have g519 := hag511.e tv4 rfl
            have ag520 := (hagL).tr hag511
            refine W.widen (k := (cs + 25)) (n := (ss + 20537)) (by omega) (by omega) ?_
            refine W.eq (g2 := F0 m 156 ls [.int r507]) rfl ?_
            refine lv_istore (lv' := [(11, .int r507), (0, .ref (gen g 98)), (1, .ref (adL v1)), (2, .ref (adL v2)), (3, .ref (adL v3)), (4, .ref (adL v4)), (5, .int v5), (6, .int v6), (7, .int v7), (8, .int v8), (9, .int v9), (10, .int v10)]) hx hb dL_law_156 hl (by decide) rfl (fun ls hl => ?_)
            refine lv_aload_n hx hb dL_law_158 rfl (lv_at hl 2 rfl) ?_
            replace hf := obE hf
            obtain ⟨z521, hz521, hf⟩ := hf
            obtain ⟨r523, S522⟩ := z521
            replace hf := ltE (ltE hf r523 rfl) S522 rfl
            refine x_callV (As := []) (rest := []) (o := (some (.int r523))) (S1 := S522) hC hl.1 hW hS hGs hA g512 rfl (show vwCl[9]? = some (RX10, TX10, 11) ∧ ob 9 from ⟨rfl, by decide⟩) (c_X10_bounced l g ad509 n508 K510 H.size F S506 v1 g512 r523 S522 hz521) (cwV 0 hts gL_law_X10_bounced rfl rfl rfl (by decide +kernel) ⟨Nat.le_of_ble_eq_true rfl, Nat.le_of_ble_eq_true rfl⟩) rfl (by rw [g513] <;> rfl) (Nat.le_of_ble_eq_true rfl) dL_law_159 ⟨show (cs + 25) ≤ room_1.cells from rc_le (by omega), show (ss + 20537) ≤ room_1.slots from rs_le (by omega)⟩ (fun H locs hPz521 hW hS => ?_)
            refine W.eq (g2 := F0 m 162 ls [.int r523]) rfl ?_
            refine lv_iload hx hb dL_law_162 (lv_at hl 11 rfl) ?_
            refine lv_icmp_ne (tgt := 190) hx hb dL_law_164 (by decide) (fun c525 => ?_) (fun c525 => ?_)
            · replace hf := ifT c525 hf
              refine lv_iconst (v := 0) hx hb dL_law_190 (by decide) ?_
              exact absurd (Prod.mk.inj (Option.some.inj hf)).1 (by decide)
            · replace hf := ifF (fun q => q c525) hf
              refine lv_iload hx hb dL_law_167 (lv_at hl 0 rfl) ?_
              refine lv_iload hx hb dL_law_169 (lv_at hl 11 rfl) ?_
              refine lv_aload_n hx hb dL_law_171 rfl (lv_at hl 1 rfl) ?_
              refine lv_iload hx hb dL_law_172 (lv_at hl 10 rfl) ?_
              replace hf := obE hf
              obtain ⟨z526, hz526, hf⟩ := hf
              obtain ⟨r528, S527⟩ := z526
              replace hf := ltE (ltE hf r528 rfl) S527 rfl
              refine x_callS (As := [.ref (gen g 98), .int v9]) (rest := [.int v10, .int r507]) (o := (some (.int r528))) (S1 := S527) hC hl.1 hW hS hGs hA (c_L_recipients l g ad509 n508 K510 H.size F S522 v0 v9 tv0 r528 S527 hz526) (va_cwS 2 hts gL_law_L_recipients rfl rfl rfl (by decide +kernel) ⟨Nat.le_of_ble_eq_true rfl, Nat.le_of_ble_eq_true rfl⟩) rfl rfl (Nat.le_of_ble_eq_true rfl) dL_law_174 ⟨show (cs + 25) ≤ room_1.cells from rc_le (by omega), show (ss + 20537) ≤ room_1.slots from rs_le (by omega)⟩ (fun H locs hPz526 hW hS => ?_)
              refine W.eq (g2 := F0 m 177 ls [.int r528, .int v10, .int r507]) rfl ?_
              refine lv_icmp_ne (tgt := 185) hx hb dL_law_177 (by decide) (fun c530 => ?_) (fun c530 => ?_)
              · replace hf := ifT c530 hf
                refine lv_iload hx hb dL_law_185 (lv_at hl 8 rfl) ?_
                exact L187 ad509 K510 n508 ag520 (cs + 25) (ss + 20537) (by omega) (by omega) S527 v0 v1 v2 v3 v4 v5 v6 v7 v8 v9 v10 r507 v7 r507 tv0 g512 g514 g516 g518 _ _ _ hf hW hS (lv_sub hl [1, 2, 3, 4, 5, 6, 7, 8, 9, 10, 11, 0] (by rw [g513, g515, g517, g519] <;> rfl))
              · replace hf := ifF (fun q => q c530) hf
                refine lv_bipush (v := -2) hx hb dL_law_180 (by decide) ?_
                refine lv_goto (tgt := 187) hx hb dL_law_182 (by decide) ?_
                exact L187 ad509 K510 n508 ag520 (cs + 25) (ss + 20537) (by omega) (by omega) S527 v0 v1 v2 v3 v4 v5 v6 v7 v8 v9 v10 r507 ((-2)) r507 tv0 g512 g514 g516 g518 _ _ _ hf hW hS (lv_sub hl [1, 2, 3, 4, 5, 6, 7, 8, 9, 10, 11, 0] (by rw [g513, g515, g517, g519] <;> rfl))
          · replace hf := ifF c504 hf
            refine lv_aload_n hx hb dL_law_99 rfl (lv_at hl 0 rfl) ?_
            refine lv_iload hx hb dL_law_100 (lv_at hl 9 rfl) ?_
            replace hf := obE hf
            obtain ⟨z531, hz531, hf⟩ := hf
            obtain ⟨r533, S532⟩ := z531
            replace hf := ltE (ltE hf r533 rfl) S532 rfl
            refine x_callS (As := [.ref (gen g 98), .int v9]) (rest := []) (o := (some (.int r533))) (S1 := S532) hC hl.1 hW hS hGs hA (c_L_recipients l g adL nL KL H.size F S501 v0 v9 tv0 r533 S532 hz531) (va_cwS 2 hts gL_law_L_recipients rfl rfl rfl (by decide +kernel) ⟨Nat.le_of_ble_eq_true rfl, Nat.le_of_ble_eq_true rfl⟩) rfl rfl (Nat.le_of_ble_eq_true rfl) dL_law_102 ⟨show cs ≤ room_1.cells from rc_le (by omega), show ss ≤ room_1.slots from rs_le (by omega)⟩ (fun H locs hPz531 hW hS => ?_)
            refine W.eq (g2 := F0 m 105 ls [.int r533]) rfl ?_
            refine lv_iload hx hb dL_law_105 (lv_at hl 11 rfl) ?_
            refine lv_ishr hx hb dL_law_107 ?_
            refine lv_iconst (v := 1) hx hb dL_law_108 (by decide) ?_
            refine lv_iand hx hb dL_law_109 ?_
            refine lv_iconst (v := 1) hx hb dL_law_110 (by decide) ?_
            refine lv_icmp_ne (tgt := 143) hx hb dL_law_111 (by decide) (fun c535 => ?_) (fun c535 => ?_)
            · replace hf := ifT c535 hf
              exact L143 adL KL nL hagL cs ss (by omega) (by omega) S532 v0 v1 v2 v3 v4 v5 v6 v7 v8 v9 v10 v11 tv0 tv1 tv2 tv3 tv4 _ _ _ hf hW hS (lv_sub hl [0, 1, 2, 3, 4, 5, 6, 7, 8, 9, 10, 11] rfl)
            · replace hf := ifF (fun q => q c535) hf
              refine lv_aload_n hx hb dL_law_114 rfl (lv_at hl 3 rfl) ?_
              refine lv_iload hx hb dL_law_115 (lv_at hl 11 rfl) ?_
              replace hf := ckiE hf
              obtain ⟨h536, hf⟩ := hf
              refine x_iald hC hW tv3 rfl rfl h536 dL_law_117 ?_
              refine lv_aload_n hx hb dL_law_118 rfl (lv_at hl 0 rfl) ?_
              refine lv_iload hx hb dL_law_119 (lv_at hl 9 rfl) ?_
              replace hf := obE hf
              obtain ⟨z537, hz537, hf⟩ := hf
              obtain ⟨r539, S538⟩ := z537
              replace hf := ltE (ltE hf r539 rfl) S538 rfl
              refine x_callS (As := [.ref (gen g 98), .int v9]) (rest := [.int (ai S532 v3 (Int32.toNatClampNeg v11))]) (o := (some (.int r539))) (S1 := S538) hC hl.1 hW hS hGs hA (c_L_size l g adL nL KL H.size F S532 v0 v9 tv0 r539 S538 hz537) (va_cwS 2 hts gL_law_L_size rfl rfl rfl (by decide +kernel) ⟨Nat.le_of_ble_eq_true rfl, Nat.le_of_ble_eq_true rfl⟩) rfl rfl (Nat.le_of_ble_eq_true rfl) dL_law_121 ⟨show cs ≤ room_1.cells from rc_le (by omega), show ss ≤ room_1.slots from rs_le (by omega)⟩ (fun H locs hPz537 hW hS => ?_)
              refine W.eq (g2 := F0 m 124 ls [.int r539, .int (ai S532 v3 (Int32.toNatClampNeg v11))]) rfl ?_
              refine lv_iadd hx hb dL_law_124 ?_
              refine lv_aload_n hx hb dL_law_125 rfl (lv_at hl 0 rfl) ?_
              refine lv_iload hx hb dL_law_126 (lv_at hl 11 rfl) ?_
              replace hf := obE hf
              obtain ⟨z541, hz541, hf⟩ := hf
              obtain ⟨r543, S542⟩ := z541
              replace hf := ltE (ltE hf r543 rfl) S542 rfl
              refine x_callS (As := [.ref (gen g 98), .int v11]) (rest := [.int ((ai S532 v3 (Int32.toNatClampNeg v11)) + r539)]) (o := (some (.int r543))) (S1 := S542) hC hl.1 hW hS hGs hA (c_L_quota l g adL nL KL H.size F S538 v0 v11 tv0 r543 S542 hz541) (va_cwS 2 hts gL_law_L_quota rfl rfl rfl (by decide +kernel) ⟨Nat.le_of_ble_eq_true rfl, Nat.le_of_ble_eq_true rfl⟩) rfl rfl (Nat.le_of_ble_eq_true rfl) dL_law_128 ⟨show cs ≤ room_1.cells from rc_le (by omega), show ss ≤ room_1.slots from rs_le (by omega)⟩ (fun H locs hPz541 hW hS => ?_)
              refine W.eq (g2 := F0 m 131 ls [.int r543, .int ((ai S532 v3 (Int32.toNatClampNeg v11)) + r539)]) rfl ?_
              refine lv_icmp_le (tgt := 143) hx hb dL_law_131 (by decide) (fun c545 => ?_) (fun c545 => ?_)
              · replace hf := ifT c545 hf
                exact L143 adL KL nL hagL cs ss (by omega) (by omega) S542 v0 v1 v2 v3 v4 v5 v6 v7 v8 v9 v10 v11 tv0 tv1 tv2 tv3 tv4 _ _ _ hf hW hS (lv_sub hl [0, 1, 2, 3, 4, 5, 6, 7, 8, 9, 10, 11] rfl)
              · replace hf := ifF c545 hf
                refine lv_iload hx hb dL_law_134 (lv_at hl 10 rfl) ?_
                refine lv_iconst (v := 1) hx hb dL_law_136 (by decide) ?_
                refine lv_iload hx hb dL_law_137 (lv_at hl 11 rfl) ?_
                refine lv_ishl hx hb dL_law_139 ?_
                refine lv_ior hx hb dL_law_140 ?_
                refine lv_topi (fun x546 ex546 => ?_)
                replace hf := ltE hf x546 ex546
                refine lv_istore (lv' := [(10, .int x546), (0, .ref (gen g 98)), (1, .ref (adL v1)), (2, .ref (adL v2)), (3, .ref (adL v3)), (4, .ref (adL v4)), (5, .int v5), (6, .int v6), (7, .int v7), (8, .int v8), (9, .int v9), (11, .int v11)]) hx hb dL_law_141 hl (by decide) rfl (fun ls hl => ?_)
                exact L143 adL KL nL hagL cs ss (by omega) (by omega) S542 v0 v1 v2 v3 v4 v5 v6 v7 v8 v9 x546 v11 tv0 tv1 tv2 tv3 tv4 _ _ _ hf hW hS (lv_sub hl [1, 2, 3, 4, 5, 6, 7, 8, 9, 10, 0, 11] rfl)
      intro adL KL nL hagL cs ss hcs hss S0 v0 v1 v2 v3 v4 v5 v6 v7 v8 v9 tv0 tv1 tv2 tv3 tv4 H locs ls hf hW hS hl
      unfold f_L_law_L77 at hf
      refine lv_iload hx hb dL_law_77 (lv_at hl 9 rfl) ?_
      refine lv_bipush (v := 9) hx hb dL_law_79 (by decide) ?_
      refine lv_icmp_ge (tgt := 529) hx hb dL_law_81 (by decide) (fun c573 => ?_) (fun c573 => ?_)
      · replace hf := ifT c573 hf
        refine lv_aload_n hx hb dL_law_529 rfl (lv_at hl 1 rfl) ?_
        replace hf := obE hf
        obtain ⟨z574, hz574, hf⟩ := hf
        obtain ⟨r576, S575⟩ := z574
        replace hf := ltE (ltE hf r576 rfl) S575 rfl
        refine x_callV (As := []) (rest := []) (o := (some (.int r576))) (S1 := S575) hC hl.1 hW hS hGs hA tv1 rfl (show vwCl[9]? = some (RX10, TX10, 11) ∧ ob 9 from ⟨rfl, by decide⟩) (c_X10_storedParts l g adL nL KL H.size F S0 v1 tv1 r576 S575 hz574) (cwV 0 hts gL_law_X10_storedParts rfl rfl rfl (by decide +kernel) ⟨Nat.le_of_ble_eq_true rfl, Nat.le_of_ble_eq_true rfl⟩) rfl rfl (Nat.le_of_ble_eq_true rfl) dL_law_530 ⟨show cs ≤ room_1.cells from rc_le (by omega), show ss ≤ room_1.slots from rs_le (by omega)⟩ (fun H locs hPz574 hW hS => ?_)
        refine W.eq (g2 := F0 m 533 ls [.int r576]) rfl ?_
        refine lv_iload hx hb dL_law_533 (lv_at hl 5 rfl) ?_
        refine lv_icmp_ne (tgt := 572) hx hb dL_law_535 (by decide) (fun c578 => ?_) (fun c578 => ?_)
        · replace hf := ifT c578 hf
          refine lv_iconst (v := 0) hx hb dL_law_572 (by decide) ?_
          exact absurd (Prod.mk.inj (Option.some.inj hf)).1 (by decide)
        · replace hf := ifF (fun q => q c578) hf
          refine lv_aload_n hx hb dL_law_538 rfl (lv_at hl 1 rfl) ?_
          replace hf := obE hf
          obtain ⟨z579, hz579, hf⟩ := hf
          obtain ⟨r581, S580⟩ := z579
          replace hf := ltE (ltE hf r581 rfl) S580 rfl
          refine x_callV (As := []) (rest := []) (o := (some (.int r581))) (S1 := S580) hC hl.1 hW hS hGs hA tv1 rfl (show vwCl[9]? = some (RX10, TX10, 11) ∧ ob 9 from ⟨rfl, by decide⟩) (c_X10_storedBytes l g adL nL KL H.size F S575 v1 tv1 r581 S580 hz579) (cwV 0 hts gL_law_X10_storedBytes rfl rfl rfl (by decide +kernel) ⟨Nat.le_of_ble_eq_true rfl, Nat.le_of_ble_eq_true rfl⟩) rfl rfl (Nat.le_of_ble_eq_true rfl) dL_law_539 ⟨show cs ≤ room_1.cells from rc_le (by omega), show ss ≤ room_1.slots from rs_le (by omega)⟩ (fun H locs hPz579 hW hS => ?_)
          refine W.eq (g2 := F0 m 542 ls [.int r581]) rfl ?_
          refine lv_iload hx hb dL_law_542 (lv_at hl 6 rfl) ?_
          refine lv_icmp_ne (tgt := 572) hx hb dL_law_544 (by decide) (fun c583 => ?_) (fun c583 => ?_)
          · replace hf := ifT c583 hf
            refine lv_iconst (v := 0) hx hb dL_law_572 (by decide) ?_
            exact absurd (Prod.mk.inj (Option.some.inj hf)).1 (by decide)
          · replace hf := ifF (fun q => q c583) hf
            refine lv_aload_n hx hb dL_law_547 rfl (lv_at hl 1 rfl) ?_
            replace hf := obE hf
            obtain ⟨z584, hz584, hf⟩ := hf
            obtain ⟨r586, S585⟩ := z584
            replace hf := ltE (ltE hf r586 rfl) S585 rfl
            refine x_callV (As := []) (rest := []) (o := (some (.int r586))) (S1 := S585) hC hl.1 hW hS hGs hA tv1 rfl (show vwCl[9]? = some (RX10, TX10, 11) ∧ ob 9 from ⟨rfl, by decide⟩) (c_X10_deadBytes l g adL nL KL H.size F S580 v1 tv1 r586 S585 hz584) (cwV 0 hts gL_law_X10_deadBytes rfl rfl rfl (by decide +kernel) ⟨Nat.le_of_ble_eq_true rfl, Nat.le_of_ble_eq_true rfl⟩) rfl rfl (Nat.le_of_ble_eq_true rfl) dL_law_548 ⟨show cs ≤ room_1.cells from rc_le (by omega), show ss ≤ room_1.slots from rs_le (by omega)⟩ (fun H locs hPz584 hW hS => ?_)
            refine W.eq (g2 := F0 m 551 ls [.int r586]) rfl ?_
            refine lv_if_ne (tgt := 572) hx hb dL_law_551 (by decide) (fun c588 => ?_) (fun c588 => ?_)
            · replace hf := ifT c588 hf
              refine lv_iconst (v := 0) hx hb dL_law_572 (by decide) ?_
              exact absurd (Prod.mk.inj (Option.some.inj hf)).1 (by decide)
            · replace hf := ifF (fun q => q c588) hf
              refine lv_aload_n hx hb dL_law_554 rfl (lv_at hl 1 rfl) ?_
              replace hf := obE hf
              obtain ⟨z589, hz589, hf⟩ := hf
              obtain ⟨r591, S590⟩ := z589
              replace hf := ltE (ltE hf r591 rfl) S590 rfl
              refine x_callV (As := []) (rest := []) (o := (some (.int r591))) (S1 := S590) hC hl.1 hW hS hGs hA tv1 rfl (show vwCl[9]? = some (RX10, TX10, 11) ∧ ob 9 from ⟨rfl, by decide⟩) (c_X10_messageCount l g adL nL KL H.size F S585 v1 tv1 r591 S590 hz589) (cwV 0 hts gL_law_X10_messageCount rfl rfl rfl (by decide +kernel) ⟨Nat.le_of_ble_eq_true rfl, Nat.le_of_ble_eq_true rfl⟩) rfl rfl (Nat.le_of_ble_eq_true rfl) dL_law_555 ⟨show cs ≤ room_1.cells from rc_le (by omega), show ss ≤ room_1.slots from rs_le (by omega)⟩ (fun H locs hPz589 hW hS => ?_)
              refine W.eq (g2 := F0 m 558 ls [.int r591]) rfl ?_
              refine lv_iload hx hb dL_law_558 (lv_at hl 7 rfl) ?_
              refine lv_icmp_ne (tgt := 572) hx hb dL_law_560 (by decide) (fun c593 => ?_) (fun c593 => ?_)
              · replace hf := ifT c593 hf
                refine lv_iconst (v := 0) hx hb dL_law_572 (by decide) ?_
                exact absurd (Prod.mk.inj (Option.some.inj hf)).1 (by decide)
              · replace hf := ifF (fun q => q c593) hf
                refine lv_aload_n hx hb dL_law_563 rfl (lv_at hl 1 rfl) ?_
                replace hf := obE hf
                obtain ⟨z594, hz594, hf⟩ := hf
                obtain ⟨r596, S595⟩ := z594
                replace hf := ltE (ltE hf r596 rfl) S595 rfl
                refine x_callV (As := []) (rest := []) (o := (some (.int r596))) (S1 := S595) hC hl.1 hW hS hGs hA tv1 rfl (show vwCl[9]? = some (RX10, TX10, 11) ∧ ob 9 from ⟨rfl, by decide⟩) (c_X10_eventCount l g adL nL KL H.size F S590 v1 tv1 r596 S595 hz594) (cwV 0 hts gL_law_X10_eventCount rfl rfl rfl (by decide +kernel) ⟨Nat.le_of_ble_eq_true rfl, Nat.le_of_ble_eq_true rfl⟩) rfl rfl (Nat.le_of_ble_eq_true rfl) dL_law_564 ⟨show cs ≤ room_1.cells from rc_le (by omega), show ss ≤ room_1.slots from rs_le (by omega)⟩ (fun H locs hPz594 hW hS => ?_)
                refine W.eq (g2 := F0 m 567 ls [.int r596]) rfl ?_
                refine lv_iload hx hb dL_law_567 (lv_at hl 8 rfl) ?_
                refine lv_icmp_eq (tgt := 574) hx hb dL_law_569 (by decide) (fun c598 => ?_) (fun c598 => ?_)
                · replace hf := ifT c598 hf
                  refine lv_iconst (v := 0) hx hb dL_law_574 (by decide) ?_
                  refine lv_istore (lv' := [(9, .int 0), (0, .ref (gen g 98)), (1, .ref (adL v1)), (2, .ref (adL v2)), (3, .ref (adL v3)), (4, .ref (adL v4)), (5, .int v5), (6, .int v6), (7, .int v7), (8, .int v8)]) hx hb dL_law_575 hl (by decide) rfl (fun ls hl => ?_)
                  exact L577 F adL KL nL hagL cs ss (by omega) (by omega) S595 v0 v1 v2 v3 v4 v6 0 tv0 tv1 tv2 tv3 tv4 _ _ _ hf hW hS (lv_sub hl [1, 2, 3, 4, 5, 7, 0] rfl)
                · replace hf := ifF c598 hf
                  refine lv_iconst (v := 0) hx hb dL_law_572 (by decide) ?_
                  exact absurd (Prod.mk.inj (Option.some.inj hf)).1 (by decide)
      · replace hf := ifF c573 hf
        refine lv_iconst (v := 0) hx hb dL_law_84 (by decide) ?_
        refine lv_istore (lv' := [(10, .int 0), (0, .ref (gen g 98)), (1, .ref (adL v1)), (2, .ref (adL v2)), (3, .ref (adL v3)), (4, .ref (adL v4)), (5, .int v5), (6, .int v6), (7, .int v7), (8, .int v8), (9, .int v9)]) hx hb dL_law_85 hl (by decide) rfl (fun ls hl => ?_)
        refine lv_iconst (v := 0) hx hb dL_law_87 (by decide) ?_
        refine lv_istore (lv' := [(11, .int 0), (10, .int 0), (0, .ref (gen g 98)), (1, .ref (adL v1)), (2, .ref (adL v2)), (3, .ref (adL v3)), (4, .ref (adL v4)), (5, .int v5), (6, .int v6), (7, .int v7), (8, .int v8), (9, .int v9)]) hx hb dL_law_88 hl (by decide) rfl (fun ls hl => ?_)
        exact L90 F adL KL nL hagL cs ss (by omega) (by omega) S0 v0 v1 v2 v3 v4 v5 v6 v7 v8 v9 0 0 tv0 tv1 tv2 tv3 tv4 _ _ _ hf hW hS (lv_sub hl [2, 3, 4, 5, 6, 7, 8, 9, 10, 11, 1, 0] rfl)
  unfold f_L_law at hf
  refine x_new (ci := 9) (C := RX10) (T := TX10) (N := 11) hC hinX10 tyX10_ok hW hS hA ⟨rfl, by decide, by decide⟩ (by decide +kernel) w_3 w_4 w_5 (show 0 + 1 ≤ room_1.cells from rc_le (by omega)) (show 0 + 11 ≤ room_1.slots from rs_le (by omega)) dL_law_0 (fun q599 ad600 K601 S602 H eS602 hag604 eqq599 ekq599 hW hS => ?_)
  replace hf := ltE hf S602 eS602
  obtain ⟨n603, en603⟩ : ∃ z, z = n + 1 := ⟨_, rfl⟩
  rw [← en603] at hag604 hW
  replace hf := ltE hf n603 en603
  have tq599 : n < n603 ∧ K601 n = 9 := ⟨by omega, ekq599⟩
  have ag605 := (Ag.rf).tr hag604
  refine W.widen (k := 1) (n := 11) (by omega) (by omega) ?_
  refine lv_dup hx hb dL_law_3 rfl ?_
  replace hf := obE hf
  obtain ⟨z606, hz606, hf⟩ := hf
  obtain ⟨S607, n609⟩ := z606
  replace hf := ltE (ltE hf S607 rfl) n609 rfl
  refine x_acallI (As := []) (rest := [.ref (q599)]) (S1 := S607) (n1 := n609) (o := (fun _ => none)) (P := (fun _ => True)) hC hl.1 hW hS hGs hA (c_X10_init l g ad600 n603 K601 H.size F S602 n tq599 S607 n609 hz606) (cwI 0 hts gL_law_X10_init rfl rfl rfl w_5 w_6 w_7 rfl (by decide +kernel) ⟨Nat.le_of_ble_eq_true rfl, Nat.le_of_ble_eq_true rfl⟩) rfl (by rw [eqq599] <;> rfl) (Nat.le_of_ble_eq_true rfl) dL_law_4 ⟨(show 1 + 196 ≤ room_1.cells from rc_le (by omega)), (show 11 + 77664 ≤ room_1.slots from rs_le (by omega))⟩ (fun ad610 K611 H locs hag612 hPz606 hW hS => ?_)
  have g613 := hag612.t tq599
  have g614 := hag612.e tq599 eqq599
  have ag615 := (ag605).tr hag612
  refine W.widen (k := 197) (n := 77675) (by omega) (by omega) ?_
  refine W.eq (g2 := F0 m 7 ls [.ref (q599)]) rfl ?_
  refine lv_astore_n (lv' := [(1, .ref (q599)), (0, .ref (gen g 98))]) hx hb dL_law_7 rfl hl (by decide) rfl (fun ls hl => ?_)
  refine lv_aload_n hx hb dL_law_8 rfl (lv_at hl 0 rfl) ?_
  refine lv_aload_n hx hb dL_law_9 rfl (lv_at hl 1 rfl) ?_
  replace hf := obE hf
  obtain ⟨z616, hz616, hf⟩ := hf
  obtain ⟨r618, S617, n619⟩ := z616
  replace hf := ltE (ltE (ltE hf r618 rfl) S617 rfl) n619 rfl
  refine x_acallS (As := [.ref (ad610 n), .ref (gen g 98)]) (rest := []) (S1 := S617) (n1 := n619) (o := (fun _ => some (.int r618))) (P := (fun _ => True)) hC hl.1 hW hS hGs hA (c_L_load l g ad610 n609 K611 H.size F S607 n p0 g613 tp0 r618 S617 n619 hz616) (va_cwS 2 hts gL_law_L_load rfl rfl rfl (by decide +kernel) ⟨Nat.le_of_ble_eq_true rfl, Nat.le_of_ble_eq_true rfl⟩) rfl (by rw [g614] <;> rfl) (Nat.le_of_ble_eq_true rfl) dL_law_10 ⟨(show 197 + 167 ≤ room_1.cells from rc_le (by omega)), (show 77675 + 147676 ≤ room_1.slots from rs_le (by omega))⟩ (fun ad620 K621 H locs hag622 hPz616 hW hS => ?_)
  have g623 := hag622.t g613
  have g624 := hag622.e g613 g614
  have ag625 := (ag615).tr hag622
  refine W.widen (k := 364) (n := 225351) (by omega) (by omega) ?_
  refine W.eq (g2 := F0 m 13 ls [.int r618]) rfl ?_
  refine lv_if_eq (tgt := 22) hx hb dL_law_13 (by decide) (fun c626 => ?_) (fun c626 => ?_)
  · replace hf := ifT c626 hf
    refine lv_iconst (v := 0) hx hb dL_law_22 (by decide) ?_
    exact absurd (Prod.mk.inj (Option.some.inj hf)).1 (by decide)
  · replace hf := ifF c626 hf
    replace hf := obE hf
    obtain ⟨z627, hz627, hf⟩ := hf
    obtain ⟨r629, S631, n632⟩ := z627
    replace hf := ltE hf r629 rfl
    refine x_acallS0 (rest := []) (o := (some (.int r629))) hC hl.1 hW hS hGs hA (c_L_errors l g (fun _ => 0) 0 (fun _ => 0) H.size F SE r629 S631 n632 hz627) (va_cwS 0 hts gL_law_L_errors rfl rfl rfl (by decide +kernel) ⟨Nat.le_of_ble_eq_true rfl, Nat.le_of_ble_eq_true rfl⟩) rfl rfl (Nat.le_of_ble_eq_true rfl) dL_law_16 ⟨(show 364 + 648 ≤ room_1.cells from rc_le (by omega)), (show 225351 + 165707 ≤ room_1.slots from rs_le (by omega))⟩ (fun H locs hW hS => ?_)
    refine W.widen (k := 1012) (n := 391058) (by omega) (by omega) ?_
    refine W.eq (g2 := F0 m 19 ls [.int r629]) rfl ?_
    refine lv_if_ne (tgt := 24) hx hb dL_law_19 (by decide) (fun c633 => ?_) (fun c633 => ?_)
    · replace hf := ifT c633 hf
      refine lv_bipush (v := 6) hx hb dL_law_24 (by decide) ?_
      refine x_newaI (len := 6) hC w_8 hW hS hA (by decide) (by decide) (Nat.le_of_ble_eq_true rfl) (show 1012 + 1 ≤ room_1.cells from rc_le (by omega)) (show 391058 + 6 ≤ room_1.slots from rs_le (by omega)) dL_law_26 (fun q634 ad635 K636 S637 H eS637 hag639 eqq634 ekq634 hW hS => ?_)
      replace hf := ltE hf S637 eS637
      obtain ⟨n638, en638⟩ : ∃ z, z = n619 + 1 := ⟨_, rfl⟩
      rw [← en638] at hag639 hW
      replace hf := ltE hf n638 en638
      have tq634 : n619 < n638 ∧ K636 n619 = 12 := ⟨by omega, ekq634⟩
      have g640 := hag639.t g623
      have g641 := hag639.e g623 g624
      have ag642 := (ag625).tr hag639
      refine W.widen (k := 1013) (n := 391064) (by omega) (by omega) ?_
      refine lv_dup hx hb dL_law_28 rfl ?_
      refine lv_iconst (v := 0) hx hb dL_law_29 (by decide) ?_
      refine lv_iconst (v := -1) hx hb dL_law_30 (by decide) ?_
      replace hf := ckiE hf
      obtain ⟨h643, hf⟩ := hf
      refine x_iast hC hW hS tq634 eqq634 rfl h643 dL_law_31 (fun S644 H locs eS644 hW hS => ?_)
      replace hf := ltE hf S644 eS644
      refine lv_dup hx hb dL_law_32 rfl ?_
      refine lv_iconst (v := 1) hx hb dL_law_33 (by decide) ?_
      refine lv_iconst (v := -1) hx hb dL_law_34 (by decide) ?_
      replace hf := ckiE hf
      obtain ⟨h645, hf⟩ := hf
      refine x_iast hC hW hS tq634 eqq634 rfl h645 dL_law_35 (fun S646 H locs eS646 hW hS => ?_)
      replace hf := ltE hf S646 eS646
      refine lv_dup hx hb dL_law_36 rfl ?_
      refine lv_iconst (v := 2) hx hb dL_law_37 (by decide) ?_
      refine lv_iconst (v := -1) hx hb dL_law_38 (by decide) ?_
      replace hf := ckiE hf
      obtain ⟨h647, hf⟩ := hf
      refine x_iast hC hW hS tq634 eqq634 rfl h647 dL_law_39 (fun S648 H locs eS648 hW hS => ?_)
      replace hf := ltE hf S648 eS648
      refine lv_dup hx hb dL_law_40 rfl ?_
      refine lv_iconst (v := 3) hx hb dL_law_41 (by decide) ?_
      refine lv_iconst (v := -1) hx hb dL_law_42 (by decide) ?_
      replace hf := ckiE hf
      obtain ⟨h649, hf⟩ := hf
      refine x_iast hC hW hS tq634 eqq634 rfl h649 dL_law_43 (fun S650 H locs eS650 hW hS => ?_)
      replace hf := ltE hf S650 eS650
      refine lv_dup hx hb dL_law_44 rfl ?_
      refine lv_iconst (v := 4) hx hb dL_law_45 (by decide) ?_
      refine lv_iconst (v := -1) hx hb dL_law_46 (by decide) ?_
      replace hf := ckiE hf
      obtain ⟨h651, hf⟩ := hf
      refine x_iast hC hW hS tq634 eqq634 rfl h651 dL_law_47 (fun S652 H locs eS652 hW hS => ?_)
      replace hf := ltE hf S652 eS652
      refine lv_dup hx hb dL_law_48 rfl ?_
      refine lv_iconst (v := 5) hx hb dL_law_49 (by decide) ?_
      refine lv_iconst (v := -1) hx hb dL_law_50 (by decide) ?_
      replace hf := ckiE hf
      obtain ⟨h653, hf⟩ := hf
      refine x_iast hC hW hS tq634 eqq634 rfl h653 dL_law_51 (fun S654 H locs eS654 hW hS => ?_)
      replace hf := ltE hf S654 eS654
      refine lv_astore_n (lv' := [(2, .ref (q634)), (1, .ref (q599)), (0, .ref (gen g 98))]) hx hb dL_law_52 rfl hl (by decide) rfl (fun ls hl => ?_)
      refine lv_iconst (v := 3) hx hb dL_law_53 (by decide) ?_
      refine x_newaI (len := 3) hC w_8 hW hS hA (by decide) (by decide) (Nat.le_of_ble_eq_true rfl) (show 1013 + 1 ≤ room_1.cells from rc_le (by omega)) (show 391064 + 3 ≤ room_1.slots from rs_le (by omega)) dL_law_54 (fun q655 ad656 K657 S658 H eS658 hag660 eqq655 ekq655 hW hS => ?_)
      replace hf := ltE hf S658 eS658
      obtain ⟨n659, en659⟩ : ∃ z, z = n638 + 1 := ⟨_, rfl⟩
      rw [← en659] at hag660 hW
      replace hf := ltE hf n659 en659
      have tq655 : n638 < n659 ∧ K657 n638 = 12 := ⟨by omega, ekq655⟩
      have g661 := hag660.t tq634
      have g662 := hag660.e tq634 eqq634
      have g663 := hag660.t g640
      have g664 := hag660.e g640 g641
      have ag665 := (ag642).tr hag660
      refine W.widen (k := 1014) (n := 391067) (by omega) (by omega) ?_
      refine lv_astore_n (lv' := [(3, .ref (q655)), (2, .ref (q634)), (1, .ref (q599)), (0, .ref (gen g 98))]) hx hb dL_law_56 rfl hl (by decide) rfl (fun ls hl => ?_)
      refine lv_iconst (v := 3) hx hb dL_law_57 (by decide) ?_
      refine x_newaI (len := 3) hC w_8 hW hS hA (by decide) (by decide) (Nat.le_of_ble_eq_true rfl) (show 1014 + 1 ≤ room_1.cells from rc_le (by omega)) (show 391067 + 3 ≤ room_1.slots from rs_le (by omega)) dL_law_58 (fun q666 ad667 K668 S669 H eS669 hag671 eqq666 ekq666 hW hS => ?_)
      replace hf := ltE hf S669 eS669
      obtain ⟨n670, en670⟩ : ∃ z, z = n659 + 1 := ⟨_, rfl⟩
      rw [← en670] at hag671 hW
      replace hf := ltE hf n670 en670
      have tq666 : n659 < n670 ∧ K668 n659 = 12 := ⟨by omega, ekq666⟩
      have g672 := hag671.t tq655
      have g673 := hag671.e tq655 eqq655
      have g674 := hag671.t g661
      have g675 := hag671.e g661 g662
      have g676 := hag671.t g663
      have g677 := hag671.e g663 g664
      have ag678 := (ag665).tr hag671
      refine W.widen (k := 1015) (n := 391070) (by omega) (by omega) ?_
      refine lv_astore (lv' := [(4, .ref (q666)), (3, .ref (q655)), (2, .ref (q634)), (1, .ref (q599)), (0, .ref (gen g 98))]) hx hb dL_law_60 hl (by decide) rfl (fun ls hl => ?_)
      refine lv_iconst (v := 0) hx hb dL_law_62 (by decide) ?_
      refine lv_istore (lv' := [(5, .int 0), (4, .ref (q666)), (3, .ref (q655)), (2, .ref (q634)), (1, .ref (q599)), (0, .ref (gen g 98))]) hx hb dL_law_63 hl (by decide) rfl (fun ls hl => ?_)
      refine lv_iconst (v := 0) hx hb dL_law_65 (by decide) ?_
      refine lv_istore (lv' := [(6, .int 0), (5, .int 0), (4, .ref (q666)), (3, .ref (q655)), (2, .ref (q634)), (1, .ref (q599)), (0, .ref (gen g 98))]) hx hb dL_law_66 hl (by decide) rfl (fun ls hl => ?_)
      refine lv_iconst (v := 0) hx hb dL_law_68 (by decide) ?_
      refine lv_istore (lv' := [(7, .int 0), (6, .int 0), (5, .int 0), (4, .ref (q666)), (3, .ref (q655)), (2, .ref (q634)), (1, .ref (q599)), (0, .ref (gen g 98))]) hx hb dL_law_69 hl (by decide) rfl (fun ls hl => ?_)
      refine lv_iconst (v := 0) hx hb dL_law_71 (by decide) ?_
      refine lv_istore (lv' := [(8, .int 0), (7, .int 0), (6, .int 0), (5, .int 0), (4, .ref (q666)), (3, .ref (q655)), (2, .ref (q634)), (1, .ref (q599)), (0, .ref (gen g 98))]) hx hb dL_law_72 hl (by decide) rfl (fun ls hl => ?_)
      refine lv_iconst (v := 0) hx hb dL_law_74 (by decide) ?_
      refine lv_istore (lv' := [(9, .int 0), (8, .int 0), (7, .int 0), (6, .int 0), (5, .int 0), (4, .ref (q666)), (3, .ref (q655)), (2, .ref (q634)), (1, .ref (q599)), (0, .ref (gen g 98))]) hx hb dL_law_75 hl (by decide) rfl (fun ls hl => ?_)
      exact L77 12 ad667 K668 n670 ag678 1015 391070 (by omega) (by omega) S669 p0 n n619 n638 n659 0 0 0 0 0 tp0 g676 g674 g672 tq666 _ _ _ hf hW hS (lv_sub hl [9, 8, 7, 6, 5, 4, 3, 2, 1, 0] (by rw [g677, g675, g673, eqq666] <;> rfl))
    · replace hf := ifF (fun q => q c633) hf
      refine lv_iconst (v := 0) hx hb dL_law_22 (by decide) ?_
      exact absurd (Prod.mk.inj (Option.some.inj hf)).1 (by decide)
