/-! the law and its helpers: handlers, calls of methods with a table -/
section XL
variable {p : Program} {l : Launch} {e : Env} {R : Room} {s : State} {m : MethodId} {args : Array Value} {below : List Frame} {meth : Method} {c : Code} {H : Heap} {locs : List Loc} {cells slots : Nat} {Q : State → Prop}
variable {cc : ByteArray} {pc : Nat} {ls : Array Slot} {rest : List Value} {g : GP} {ad : Nat → Nat} {n : Nat} {K : Nat → Nat} {S : St} {A : Nat → Prop} {own : String} {Ts : List Cond} {nL : Nat} {a : Nat}
theorem x_tbackA {R9 : Type} {mc ms : Nat} {o : Nat ⊕ R9} {vr : R9 → Option Value} {S1 : St} {n9 : Nat} {st0 : List Value} {av : Array Value} (hr : vx_Run p l e R s m args below meth c H locs cells slots mc ms (F0 m pc ls st0) rest (QT o vr (fun t => ∃ ad9 K9 : Nat → Nat, Ag ad K n ad9 K9 n9 ∧ Wb g ad9 n9 K9 S1 (dA ad n H.size) t.heap) (dA ad n H.size) av) (XT o (fun t => ∃ ad9 K9 : Nat → Nat, Ag ad K n ad9 K9 n9 ∧ Wb g ad9 n9 K9 S1 (dA ad n H.size) t.heap) (dA ad n H.size)) (dA ad n H.size)) (hW : Wb g ad n K S A H) (hS : va_S A s.heap H locs) (hA : ∀ q, s.heap.size ≤ q → A q)
    (kx : ∀ (x : Nat) (ad9 K9 : Nat → Nat) (H1 : Heap) (locs1 : List Loc) (ce : Cell) (q9 : Addr), o = .inl x → Ag ad K n ad9 K9 n9 → Wb g ad9 n9 K9 S1 A H1 → va_S A s.heap H1 locs1 → H1[q9]? = some ce → ce.vm = .none → s.vm.findClass (exn x) = some ce.cls → vx_W p l e R s m args below meth c H1 locs1 (cells + mc) (slots + ms) Q (F0 m pc ls rest) q9)
    (kk : ∀ (r : R9) (ad9 K9 : Nat → Nat) (H1 : Heap) (locs1 : List Loc), o = .inr r → Ag ad K n ad9 K9 n9 → Wb g ad9 n9 K9 S1 A H1 → va_S A s.heap H1 locs1 → W p l e R s m args below meth c H1 locs1 (cells + mc) (slots + ms) Q (F0 m (pc + 3) ls ((vr r).toList ++ rest))) : W p l e R s m args below meth c H locs cells slots Q (F0 m pc ls st0) := by
  have hf := x_free hW hS hA
  have key : ∀ {T' t st₀ : State} {L : List Loc}, st₀.heap = H → T'.heap = t.heap → va_F (dA ad n H.size) st₀ t → (∀ q ∈ L, dA ad n H.size q.base) → va_S A s.heap T'.heap (locs ++ L) := by
    intro T' t st₀ L h0 e1 hF hL
    obtain ⟨hz, hk⟩ := hF
    rw [h0] at hz hk
    refine ⟨?_, ?_, ?_⟩
    · rw [e1]; exact Nat.le_trans hS.1 hz
    · intro q hq hnq
      rw [e1, hk q (Nat.lt_of_lt_of_le hq hS.1) (fun h => hnq (hf q h))]
      exact hS.2.1 q hq hnq
    · intro z hzz
      rcases List.mem_append.mp hzz with h | h
      · exact hS.2.2 z h
      · exact hf _ (hL z h)
  intro T hT X
  rcases hr T hT X with ⟨v, st₀, t, T', L, h0, X', hL, e1, e2, ⟨⟨r, ho, hv, ad9, K9, hag, hB⟩, hF⟩, st⟩ | ⟨q9, st₀, t, T', L, E, ce, h0, X', hL, e1, e2, ⟨⟨x, ho, hE, ad9, K9, hag, hB⟩, hF⟩, hc1, hc2, hc3, st⟩
  · cases hv
    have hB1 : Wb g ad9 n9 K9 S1 A T'.heap := by
      rw [e1]
      exact ⟨hB.1, hB.2.1.weaken (fun _ q _ h => hf q.1 h), hB.2.2⟩
    obtain ⟨t', a1, b1⟩ := kk r ad9 K9 T'.heap (locs ++ L) ho hag hB1 (key h0 e1 hF hL) T' rfl X'
    exact ⟨t', st t' a1, b1⟩
  · subst hE
    have hB1 : Wb g ad9 n9 K9 S1 A T'.heap := by
      rw [e1]
      exact ⟨hB.1, hB.2.1.weaken (fun _ q _ h => hf q.1 h), hB.2.2⟩
    obtain ⟨t', a1, b1⟩ := kx x ad9 K9 T'.heap (locs ++ L) ce q9 ho hag hB1 (key h0 e1 hF hL) (by rw [e1]; exact hc1) hc2 hc3 T' rfl X'
    exact ⟨t', st.trans a1, b1⟩
theorem x_tcallVA {R9 : Type} {C index y bytes maxL ret ws rm As na i0 ci T N S1 st0 mc ms} {o : Nat ⊕ R9} {vr : R9 → Option Value} {n9 : Nat} (hC : Cx g p s m args c cc own Ts nL) (hls : ls.size = nL) (hW : Wb g ad n K S A H) (hS : va_S A s.heap H locs) (hG : GF g A s s.heap) (hA : ∀ q, s.heap.size ≤ q → A q) (hi : i0 < n ∧ K i0 = ci) (ha : a = ad i0) (hci : vwCl[ci]? = some (C, T, N) ∧ ci < 11)
    (hM : vx_Met l y ws rm (va_Pc (.ref a :: As) (PB g ad n K S H.size)) (QT o vr (fun t => ∃ ad9 K9 : Nat → Nat, Ag ad K n ad9 K9 n9 ∧ Wb g ad9 n9 K9 S1 (dA ad n H.size) t.heap) (dA ad n H.size)) (XT o (fun t => ∃ ad9 K9 : Nat → Nat, Ag ad K n ad9 K9 n9 ∧ Wb g ad9 n9 K9 S1 (dA ad n H.size) t.heap) (dA ad n H.size)) mc ms (dA ad n H.size))
    (cw : CallW R s args own C index y bytes maxL ret ws rm mc ms na) (hn : As.length = na) (hst : st0 = As.reverse ++ .ref a :: rest) (hR : (rest.map fun v => v.category).sum ≤ 8) (hdg : decode cc pc = .ok (.invokevirtual index, 3)) (hf : cells + mc ≤ R.cells ∧ slots + ms ≤ R.slots)
    (kx : ∀ (x : Nat) (ad9 K9 : Nat → Nat) (H1 : Heap) (locs1 : List Loc) (ce : Cell) (q9 : Addr), o = .inl x → Ag ad K n ad9 K9 n9 → Wb g ad9 n9 K9 S1 A H1 → va_S A s.heap H1 locs1 → H1[q9]? = some ce → ce.vm = .none → s.vm.findClass (exn x) = some ce.cls → vx_W p l e R s m args below meth c H1 locs1 (cells + mc) (slots + ms) Q (F0 m pc ls rest) q9)
    (kk : ∀ (r : R9) (ad9 K9 : Nat → Nat) (H1 : Heap) (locs1 : List Loc), o = .inr r → Ag ad K n ad9 K9 n9 → Wb g ad9 n9 K9 S1 A H1 → va_S A s.heap H1 locs1 → W p l e R s m args below meth c H1 locs1 (cells + mc) (slots + ms) Q (F0 m (pc + 3) ls ((vr r).toList ++ rest))) : W p l e R s m args below meth c H locs cells slots Q (F0 m pc ls st0) := by
  have hCC := hC
  obtain ⟨hx, hb, hml, hown, hts, hK⟩ := hC
  subst ha
  have hw := wd_get (g := g) (ad := ad) (K := K) (S := S) hi.1
  rw [cE_obj hi.2 hci.2] at hw
  exact x_tbackA (vx_runV (rest := rest) (As := As) ⟨hx, hb, hml, hown, hts⟩ hM cw ⟨x_blind, va_recv hK hW.1 hci.1 hw, fun U hU hWm => ⟨rfl, x_pre hCC hW hS hG hA hU hWm⟩⟩ rfl hn hls hst (lv_room hR) hdg hf) hW hS hA kx kk
theorem x_callSW {index y bytes maxL ret ws rm As na o S1 st0} {P : Prop} (hC : Cx g p s m args c cc own Ts nL) (hls : ls.size = nL) (hW : Wb g ad n K S A H) (hS : va_S A s.heap H locs) (hG : GF g A s s.heap) (hA : ∀ q, s.heap.size ≤ q → A q)
    (hM : Met l y ws rm (va_Pc As (PB g ad n K S H.size)) (QR o (QB g ad n K S1 (dA ad n H.size) P) (dA ad n H.size)) 0 0 (dA ad n H.size))
    {hh : List (Nat × Nat × Nat × Nat)} (cw : vx_CSW R s args own index y bytes maxL ret hh ws rm 0 0 na) (hn : As.length = na) (hst : st0 = As.reverse ++ rest) (hR : (rest.map fun v => v.category).sum ≤ 8) (hdg : decode cc pc = .ok (.invokestatic index, 3)) (hf : cells ≤ R.cells ∧ slots ≤ R.slots)
    (kk : ∀ (H1 : Heap) (locs1 : List Loc), P → Wb g ad n K S1 A H1 → va_S A s.heap H1 locs1 → W p l e R s m args below meth c H1 locs1 cells slots Q (F0 m (pc + 3) ls (o.toList ++ rest))) : W p l e R s m args below meth c H locs cells slots Q (F0 m pc ls st0) := by
  have hCC := hC
  obtain ⟨hx, hb, hml, hown, hts, hK⟩ := hC
  exact x_back (vx_runSW (rest := rest) (As := As) ⟨hx, hb, hml, hown, hts⟩ hM cw ⟨x_blind, fun U hU hWm => ⟨rfl, x_pre hCC hW hS hG hA hU hWm⟩⟩ rfl hn hls hst (lv_room hR) hdg hf) hW hS hA kk
theorem x_acallSW {index y bytes maxL ret ws rm As na S1 st0 mc ms n1} {o : (Nat → Nat) → Option Value} {P : (Nat → Nat) → Prop} (hC : Cx g p s m args c cc own Ts nL) (hls : ls.size = nL) (hW : Wb g ad n K S A H) (hS : va_S A s.heap H locs) (hG : GF g A s s.heap) (hA : ∀ q, s.heap.size ≤ q → A q)
    (hM : Met l y ws rm (va_Pc As (PB g ad n K S H.size)) (QA ad K n o g n1 S1 (dA ad n H.size) P) mc ms (dA ad n H.size))
    {hh : List (Nat × Nat × Nat × Nat)} (cw : vx_CSW R s args own index y bytes maxL ret hh ws rm mc ms na) (hn : As.length = na) (hst : st0 = As.reverse ++ rest) (hR : (rest.map fun v => v.category).sum ≤ 8) (hdg : decode cc pc = .ok (.invokestatic index, 3)) (hf : cells + mc ≤ R.cells ∧ slots + ms ≤ R.slots)
    (kk : ∀ (ad1 K1 : Nat → Nat) (H1 : Heap) (locs1 : List Loc), Ag ad K n ad1 K1 n1 → P K1 → Wb g ad1 n1 K1 S1 A H1 → va_S A s.heap H1 locs1 → W p l e R s m args below meth c H1 locs1 (cells + mc) (slots + ms) Q (F0 m (pc + 3) ls ((o ad1).toList ++ rest))) : W p l e R s m args below meth c H locs cells slots Q (F0 m pc ls st0) := by
  have hCC := hC
  obtain ⟨hx, hb, hml, hown, hts, hK⟩ := hC
  exact x_aback (vx_runSW (rest := rest) (As := As) ⟨hx, hb, hml, hown, hts⟩ hM cw ⟨x_blind, fun U hU hWm => ⟨rfl, x_pre hCC hW hS hG hA hU hWm⟩⟩ rfl hn hls hst (lv_room hR) hdg hf) hW hS hA kk
theorem x_caught {x : Nat} {name : String} {ce : Cell} {q : Addr} (hC : Cx g p s m args c cc own Ts nL) (hG : GF g A s s.heap) (pre : List ExceptionTableEntry) (z : ExceptionTableEntry) (suf : List ExceptionTableEntry) (hsplit : c.exceptionTable.toList = pre ++ z :: suf)
    (hpass : ∀ z ∈ pre, covers z pc = false ∨ (z.catchType ≠ 0 ∧ ∃ nm : String, (Cond.classLink own z.catchType nm).before args s = true ∧ va_Nc (exn x) nm s)) (hx : covers z pc = true ∧ z.catchType ≠ 0 ∧ exn x = name ∧ Cond.castable name name ∈ CSl)
    (hlink : (Cond.classLink own z.catchType name).before args s = true) (hcell : H[q]? = some ce) (hv : ce.vm = .none) (hcl : s.vm.findClass (exn x) = some ce.cls)
    (kk : W p l e R s m args below meth c H locs cells slots Q (F0 m z.handlerPc ls [.ref q])) : vx_W p l e R s m args below meth c H locs cells slots Q (F0 m pc ls rest) q :=
  vx_catch hC.2.2.2.1 pre z suf hsplit hpass hx.1 hx.2.1 hlink (by rw [hx.2.2.1]; exact va_Nw.use rfl (hG.2.1 _ hx.2.2.2)) hcell hv hcl kk
theorem x_nc {E T : String} (hG : GF g A s s.heap) (h : (E, T) ∈ NCl) : va_Nc E T s := hG.2.2.2.2.2.2.2.2 _ h
end XL
theorem x_ofWH {l : Launch} {y : MethodName} {ws ws' : List Cond} {rm : Room} {Pc : Array Value → State → Prop} {Qc : Array Value → State → Outcome → State → Prop} {mc ms : Nat} {free : Addr → Prop} {cc : ByteArray} {maxL : Nat} {ret : Option FieldType} {hh : List (Nat × Nat × Nat × Nat)}
    (hy : plainName y.cls = true) (hw : ws = Cond.codeWith y cc maxL ret hh :: ws')
    (body : ∀ p e s m args below meth c s₁, BodyLoose p l y (headSpec ws rm) cc maxL ret e s m args below meth c s₁ → c.maxLocals = maxL → Pc args s →
      W p l e (headSpec ws rm).room s m args below meth c s.heap [] 0 0 (MQ below Qc args s mc ms free) (entryFrame m args maxL)) : Met l y ws rm Pc Qc mc ms free := by
  refine MetFree.of_bodyS (code := cc) (maxLocals := maxL) (ret := ret) hy ?_ ?_
  · intro args s m h hn
    obtain ⟨m9, meth, c, hn9, h1, h2, h3, h4, -, h5, h6, -⟩ := Cond.codeWith_spec (atoms_spec (ws := ws) h _ (by rw [hw]; exact List.mem_cons_self))
    cases hn.symm.trans hn9
    exact ⟨meth, c, h1, h2, h3, h4, h5, h6⟩
  · intro p e s m args below meth c s₁ B hml hP _
    have hh0 : s₁.heap = s.heap := by rw [B.state]; rfl
    obtain ⟨t, a1, o, b1, b2, b3⟩ := body p e s m args below meth c s₁ B hml hP s₁ hh0 (Stand.of_body B)
    exact ⟨t, o, a1, b1, b2, ⟨b3.1, b3.2⟩⟩
