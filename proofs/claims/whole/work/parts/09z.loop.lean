/-! the law's loop, and the law from its entry: all that is left is pure -/
set_option maxHeartbeats 4000000 in
set_option maxRecDepth 100000 in
theorem c_loop {p : Program} {e : Env} {s : State} {m : MethodId} {below : List Frame} {meth : Method} {c : Code} {b L : Nat} {xs : Nat → Int32} (l : Launch) (hfl : l.stackTraces = false) (g : GP) (F o1 o2 o3 o4 : Nat)
    (hC : Cx g p s m #[.ref b] c cL_law RL lw_tbl 9) (hr : meth.sig.returnType = ret) (hlocks : meth.locks = false) (hX : va_X b L xs s s.heap) (hbl : b < s.heap.size) (hGs : GF g (fun q : Nat => s.heap.size ≤ q) s s.heap) :
    ∀ (fu : Nat) (i : Int32) (ad : Nat → Nat) (n : Nat) (K : Nat → Nat) (S0 : St) (H : Heap) (locs : List Loc) (ls : Array Slot) (cells slots : Nat), f_loop F xs L o1 o2 o3 o4 fu i S0 n = some () → Wb g ad n K S0 (fun q : Nat => s.heap.size ≤ q) H → va_S (fun q : Nat => s.heap.size ≤ q) s.heap H locs →
      o1 < n ∧ K o1 = 9 → o2 < n ∧ K o2 = 10 → o3 < n ∧ K o3 = 13 → o4 < n ∧ K o4 = 17 → lv_has ls 9 [(5, .int i), (4, .ref (ad o4)), (3, .ref (ad o3)), (2, .ref (ad o2)), (1, .ref (ad o1)), (0, .ref b)] → cells + fu * 20 ≤ 601024 → slots + fu * 8189 ≤ 7293034 →
      W p l e room_1 s m #[.ref b] below meth c H locs cells slots (lw_Z below #[Value.ref b] s) (F0 m 28 ls []) := by
  intro fu
  induction fu with
  | zero =>
    intro i ad n K S0 H locs ls cells slots hf
    cases hf
  | succ fu ih =>
    intro i ad n K S0 H locs ls cells slots hf hW hS t1 t2 t3 t4 hl hc hs
    have hx := hC.1
    have hb := hC.2.1
    have hbA : ¬ (fun q : Nat => s.heap.size ≤ q) b := Nat.not_le.mpr hbl
    unfold f_loop at hf
    refine lv_iload hx hb dL_law_28 (lv_at hl 0 rfl) ?_
    refine lv_aload_n hx hb dL_law_30 rfl (lv_at hl 5 rfl) ?_
    refine va_slen hx hb hX hbl hbA hS dL_law_31 ?_
    refine lv_bipush (v := 6) hx hb dL_law_32 (by decide) ?_
    refine lv_isub hx hb dL_law_34 ?_
    refine lv_icmp_gt (tgt := 3303) hx hb dL_law_35 (by decide) (fun h => ?_) (fun h => ?_)
    · refine lv_iconst (v := 1) hx hb dL_law_3303 (by decide) ?_
      refine va_forget (fun q hq => hS.2.2 q hq) ?_
      refine W.widen (k := 601024) (n := 7293034) (by omega) (by omega) ?_
      exact W.base (lw_ret (Drawn.sameBut.refl s.drawn lw_cs) hx hb hr hlocks dL_law_3304)
    · replace hf := ifF h hf
      replace hf := ckiE hf
      obtain ⟨h1, hf⟩ := hf
      replace hf := obE hf
      obtain ⟨⟨S9, n9⟩, hz, hf⟩ := hf
      refine lv_aload_n hx hb dL_law_38 rfl (lv_at hl 5 rfl) ?_
      refine lv_iload hx hb dL_law_39 (lv_at hl 0 rfl) ?_
      refine va_sld hx hb hX hbl hbA hS h1 dL_law_41 ?_
      refine lv_bipush (v := 63) hx hb dL_law_42 (by decide) ?_
      refine lv_iand hx hb dL_law_44 ?_
      refine c_step l hfl g ad n K F S0 o1 o2 o3 o4 i _ hC hX hbl hGs hW hS t1 t2 t3 t4 hl (by decide) (by decide) (by show _ ≤ 601024; omega) (by show _ ≤ 7293034; omega) S9 n9 hz (fun ad9 K9 H1 locs1 ls1 hag hW hS hl => ?_)
      obtain ⟨x, ex⟩ : ∃ z : Int32, z = i + 6 := ⟨_, rfl⟩
      refine lv_iinc (v := x) (lv' := [(5, .int x), (4, .ref (ad9 o4)), (3, .ref (ad9 o3)), (2, .ref (ad9 o2)), (1, .ref (ad9 o1)), (0, .ref b)]) hx hb dL_law_3297 hl (k := 0) rfl (by rw [ex]; rfl) (by decide) rfl (fun ls hl => ?_)
      refine lv_goto (tgt := 28) hx hb dL_law_3300 (by decide) ?_
      exact ih x ad9 n9 K9 S9 H1 locs1 ls _ _ (by rw [ex]; exact hf) hW hS (hag.t t1) (hag.t t2) (hag.t t3) (hag.t t4) hl (by omega) (by omega)
