/-! calls of methods that make cells -/
def sm {α β : Type} (o : Nat ⊕ α) (a : Nat → β) (b : α → β) : β := match o with
  | .inl x => a x
  | .inr r => b r
theorem smL {α β : Type} {o : Nat ⊕ α} {a : Nat → β} {b : α → β} {r : β} {x : Nat} (hq : o = .inl x) (h : sm o a b = r) : a x = r := by subst hq; exact h
theorem smR {α β : Type} {o : Nat ⊕ α} {a : Nat → β} {b : α → β} {r : β} {x : α} (hq : o = .inr x) (h : sm o a b = r) : b x = r := by subst hq; exact h
theorem Wb.kept {g : GP} {ad : Nat → Nat} {n : Nat} {K : Nat → Nat} {S : St} {A : Nat → Prop} {H H1 : Heap} (h : Wb g ad n K S A H) (hq : ∀ q, q < H.size → H1[q]? = H[q]?) : Wb g ad n K S A H1 :=
  ⟨h.1.kept (fun k q hk => hq q.1 (h.1 k q hk).lt), h.2.1, h.2.2⟩
/-- a callee that makes cells: the address map has grown -/
def QA (ad K : Nat → Nat) (n : Nat) (o : (Nat → Nat) → Option Value) (g : GP) (n9 : Nat) (S9 : St) (A : Nat → Prop) (P : (Nat → Nat) → Prop) : Array Value → State → Outcome → State → Prop := fun _ st oc t => (∃ ad9 K9 : Nat → Nat, oc = .returned (o ad9) ∧ Ag ad K n ad9 K9 n9 ∧ P K9 ∧ Wb g ad9 n9 K9 S9 A t.heap) ∧ va_F A st t
section XT
variable {p : Program} {l : Launch} {e : Env} {R : Room} {s : State} {m : MethodId} {args : Array Value} {below : List Frame} {meth : Method} {c : Code} {H : Heap} {locs : List Loc} {cells slots : Nat} {Q : State → Prop}
variable {cc : ByteArray} {pc : Nat} {ls : Array Slot} {rest : List Value} {g : GP} {ad : Nat → Nat} {n : Nat} {K : Nat → Nat} {S : St} {A : Nat → Prop} {own : String} {Ts : List Cond} {nL : Nat} {a : Nat}
theorem x_aback {mc ms n1 : Nat} {o : (Nat → Nat) → Option Value} {S1 : St} {P : (Nat → Nat) → Prop} {st0 : List Value} {av : Array Value} (hr : va_Run p l e R s m args below meth c H locs cells slots mc ms (F0 m pc ls st0) rest (QA ad K n o g n1 S1 (dA ad n H.size) P av) (dA ad n H.size)) (hW : Wb g ad n K S A H) (hS : va_S A s.heap H locs) (hA : ∀ q, s.heap.size ≤ q → A q)
    (kk : ∀ (ad1 K1 : Nat → Nat) (H1 : Heap) (locs1 : List Loc), Ag ad K n ad1 K1 n1 → P K1 → Wb g ad1 n1 K1 S1 A H1 → va_S A s.heap H1 locs1 → W p l e R s m args below meth c H1 locs1 (cells + mc) (slots + ms) Q (F0 m (pc + 3) ls ((o ad1).toList ++ rest))) : W p l e R s m args below meth c H locs cells slots Q (F0 m pc ls st0) := by
  have hf := x_free hW hS hA
  intro T hT X
  obtain ⟨v, st₀, t, T', L, h0, X', hL, e1, e2, ⟨⟨ad9, K9, hv, hAg, hP, hB⟩, hz, hk⟩, st⟩ := hr T hT X
  cases hv
  rw [h0] at hz hk
  have hS1 : va_S A s.heap T'.heap (locs ++ L) := by
    refine ⟨?_, ?_, ?_⟩
    · rw [e1]; exact Nat.le_trans hS.1 hz
    · intro q hq hnq
      rw [e1, hk q (Nat.lt_of_lt_of_le hq hS.1) (fun h => hnq (hf q h))]
      exact hS.2.1 q hq hnq
    · intro z hzz
      rcases List.mem_append.mp hzz with h | h
      · exact hS.2.2 z h
      · exact hf _ (hL z h)
  have hB1 : Wb g ad9 n1 K9 S1 A T'.heap := by
    rw [e1]
    exact ⟨hB.1, hB.2.1.weaken (fun _ q _ h => hf q.1 h), hB.2.2⟩
  obtain ⟨t', a1, b1⟩ := kk ad9 K9 T'.heap (locs ++ L) hAg hP hB1 hS1 T' rfl X'
  exact ⟨t', st t' a1, b1⟩
theorem x_acallV {C index y bytes maxL ret ws rm As na i0 ci T N S1 st0 mc ms n1} {o : (Nat → Nat) → Option Value} {P : (Nat → Nat) → Prop} (hC : Cx g p s m args c cc own Ts nL) (hls : ls.size = nL) (hW : Wb g ad n K S A H) (hS : va_S A s.heap H locs) (hG : GF g A s s.heap) (hA : ∀ q, s.heap.size ≤ q → A q) (hi : i0 < n ∧ K i0 = ci) (ha : a = ad i0) (hci : vwCl[ci]? = some (C, T, N) ∧ ob ci)
    (hM : Met l y ws rm (va_Pc (.ref a :: As) (PB g ad n K S H.size)) (QA ad K n o g n1 S1 (dA ad n H.size) P) mc ms (dA ad n H.size))
    (cw : CallW R s args own C index y bytes maxL ret ws rm mc ms na) (hn : As.length = na) (hst : st0 = As.reverse ++ .ref a :: rest) (hR : (rest.map fun v => v.category).sum ≤ 8) (hdg : decode cc pc = .ok (.invokevirtual index, 3)) (hf : cells + mc ≤ R.cells ∧ slots + ms ≤ R.slots)
    (kk : ∀ (ad1 K1 : Nat → Nat) (H1 : Heap) (locs1 : List Loc), Ag ad K n ad1 K1 n1 → P K1 → Wb g ad1 n1 K1 S1 A H1 → va_S A s.heap H1 locs1 → W p l e R s m args below meth c H1 locs1 (cells + mc) (slots + ms) Q (F0 m (pc + 3) ls ((o ad1).toList ++ rest))) : W p l e R s m args below meth c H locs cells slots Q (F0 m pc ls st0) := by
  have hCC := hC
  obtain ⟨hx, hb, hml, hown, hts, hK⟩ := hC
  subst ha
  have hw := wd_get (g := g) (ad := ad) (K := K) (S := S) hi.1
  rw [cE_obj hi.2 hci.2] at hw
  exact x_aback (va_runV (rest := rest) (As := As) ⟨hx, hb, hml, hown, hts⟩ hM cw ⟨x_blind, va_recv hK hW.1 hci.1 hw, fun U hU hWm => ⟨rfl, x_pre hCC hW hS hG hA hU hWm⟩⟩ rfl hn hls hst (lv_room hR) hdg hf) hW hS hA kk
/-- a constructor -/
theorem x_acallI {index y bytes maxL ws rm As na S1 st0 mc ms n1} {o : (Nat → Nat) → Option Value} {P : (Nat → Nat) → Prop} (hC : Cx g p s m args c cc own Ts nL) (hls : ls.size = nL) (hW : Wb g ad n K S A H) (hS : va_S A s.heap H locs) (hG : GF g A s s.heap) (hA : ∀ q, s.heap.size ≤ q → A q)
    (hM : Met l y ws rm (va_Pc (.ref a :: As) (PB g ad n K S H.size)) (QA ad K n o g n1 S1 (dA ad n H.size) P) mc ms (dA ad n H.size))
    (cw : CallB R s args own index y bytes maxL none ws rm mc ms na ∧ y.name = "<init>" ∧ (Cond.instanceMethod y).before args s = true) (hn : As.length = na) (hst : st0 = As.reverse ++ .ref a :: rest) (hR : (rest.map fun v => v.category).sum ≤ 8) (hdg : decode cc pc = .ok (.invokespecial index, 3)) (hf : cells + mc ≤ R.cells ∧ slots + ms ≤ R.slots)
    (kk : ∀ (ad1 K1 : Nat → Nat) (H1 : Heap) (locs1 : List Loc), Ag ad K n ad1 K1 n1 → P K1 → Wb g ad1 n1 K1 S1 A H1 → va_S A s.heap H1 locs1 → W p l e R s m args below meth c H1 locs1 (cells + mc) (slots + ms) Q (F0 m (pc + 3) ls ((o ad1).toList ++ rest))) : W p l e R s m args below meth c H locs cells slots Q (F0 m pc ls st0) := by
  have hCC := hC
  obtain ⟨hx, hb, hml, hown, hts, hK⟩ := hC
  exact x_aback (va_runI (rest := rest) (As := As) ⟨hx, hb, hml, hown, hts⟩ hM cw ⟨x_blind, fun U hU hWm => ⟨rfl, x_pre hCC hW hS hG hA hU hWm⟩⟩ rfl hn hls hst (lv_room hR) hdg hf) hW hS hA kk
theorem x_acallS {index y bytes maxL ret ws rm As na S1 st0 mc ms n1} {o : (Nat → Nat) → Option Value} {P : (Nat → Nat) → Prop} (hC : Cx g p s m args c cc own Ts nL) (hls : ls.size = nL) (hW : Wb g ad n K S A H) (hS : va_S A s.heap H locs) (hG : GF g A s s.heap) (hA : ∀ q, s.heap.size ≤ q → A q)
    (hM : Met l y ws rm (va_Pc As (PB g ad n K S H.size)) (QA ad K n o g n1 S1 (dA ad n H.size) P) mc ms (dA ad n H.size))
    (cw : CallB R s args own index y bytes maxL ret ws rm mc ms na ∧ (Cond.static y).before args s = true) (hn : As.length = na) (hst : st0 = As.reverse ++ rest) (hR : (rest.map fun v => v.category).sum ≤ 8) (hdg : decode cc pc = .ok (.invokestatic index, 3)) (hf : cells + mc ≤ R.cells ∧ slots + ms ≤ R.slots)
    (kk : ∀ (ad1 K1 : Nat → Nat) (H1 : Heap) (locs1 : List Loc), Ag ad K n ad1 K1 n1 → P K1 → Wb g ad1 n1 K1 S1 A H1 → va_S A s.heap H1 locs1 → W p l e R s m args below meth c H1 locs1 (cells + mc) (slots + ms) Q (F0 m (pc + 3) ls ((o ad1).toList ++ rest))) : W p l e R s m args below meth c H locs cells slots Q (F0 m pc ls st0) := by
  have hCC := hC
  obtain ⟨hx, hb, hml, hown, hts, hK⟩ := hC
  exact x_aback (va_runS (rest := rest) (As := As) ⟨hx, hb, hml, hown, hts⟩ hM cw ⟨x_blind, fun U hU hWm => ⟨rfl, x_pre hCC hW hS hG hA hU hWm⟩⟩ rfl hn hls hst (lv_room hR) hdg hf) hW hS hA kk
/-- a method of the class above, called by its own or by another's name -/
theorem x_acallU {C owner index x y bytes maxL ret ws rm As na i0 ci T N S1 st0 mc ms n1} {o : (Nat → Nat) → Option Value} {P : (Nat → Nat) → Prop} (hC : Cx g p s m args c cc own Ts nL) (hls : ls.size = nL) (hW : Wb g ad n K S A H) (hS : va_S A s.heap H locs) (hG : GF g A s s.heap) (hA : ∀ q, s.heap.size ≤ q → A q) (hi : i0 < n ∧ K i0 = ci) (ha : a = ad i0) (hci : vwCl[ci]? = some (C, T, N) ∧ ob ci)
    (hM : Met l y ws rm (va_Pc (.ref a :: As) (PB g ad n K S H.size)) (QA ad K n o g n1 S1 (dA ad n H.size) P) mc ms (dA ad n H.size))
    (cw : va_CU R s args own C owner index x y bytes maxL ret ws rm mc ms na) (hn : As.length = na) (hst : st0 = As.reverse ++ .ref a :: rest) (hR : (rest.map fun v => v.category).sum ≤ 8) (hdg : decode cc pc = .ok (.invokevirtual index, 3)) (hf : cells + mc ≤ R.cells ∧ slots + ms ≤ R.slots)
    (kk : ∀ (ad1 K1 : Nat → Nat) (H1 : Heap) (locs1 : List Loc), Ag ad K n ad1 K1 n1 → P K1 → Wb g ad1 n1 K1 S1 A H1 → va_S A s.heap H1 locs1 → W p l e R s m args below meth c H1 locs1 (cells + mc) (slots + ms) Q (F0 m (pc + 3) ls ((o ad1).toList ++ rest))) : W p l e R s m args below meth c H locs cells slots Q (F0 m pc ls st0) := by
  have hCC := hC
  obtain ⟨hx, hb, hml, hown, hts, hK⟩ := hC
  subst ha
  have hw := wd_get (g := g) (ad := ad) (K := K) (S := S) hi.1
  rw [cE_obj hi.2 hci.2] at hw
  exact x_aback (va_runU (rest := rest) (As := As) ⟨hx, hb, hml, hown, hts⟩ hM cw ⟨x_blind, va_recv hK hW.1 hci.1 hw, fun U hU hWm => ⟨rfl, x_pre hCC hW hS hG hA hU hWm⟩⟩ rfl hn hls hst (lv_room hR) hdg hf) hW hS hA kk
theorem x_acallSU {C index y bytes maxL ret ws rm As na i0 ci T N S1 st0 mc ms n1} {o : (Nat → Nat) → Option Value} {P : (Nat → Nat) → Prop} (hC : Cx g p s m args c cc own Ts nL) (hls : ls.size = nL) (hW : Wb g ad n K S A H) (hS : va_S A s.heap H locs) (hG : GF g A s s.heap) (hA : ∀ q, s.heap.size ≤ q → A q) (hi : i0 < n ∧ K i0 = ci) (ha : a = ad i0) (hci : vwCl[ci]? = some (C, T, N) ∧ ob ci)
    (hM : Met l y ws rm (va_Pc (.ref a :: As) (PB g ad n K S H.size)) (QA ad K n o g n1 S1 (dA ad n H.size) P) mc ms (dA ad n H.size))
    (cw : va_CS R s args own index y bytes maxL ret ws rm mc ms na) (hn : As.length = na) (hst : st0 = As.reverse ++ .ref a :: rest) (hR : (rest.map fun v => v.category).sum ≤ 8) (hdg : decode cc pc = .ok (.invokespecial index, 3)) (hf : cells + mc ≤ R.cells ∧ slots + ms ≤ R.slots)
    (kk : ∀ (ad1 K1 : Nat → Nat) (H1 : Heap) (locs1 : List Loc), Ag ad K n ad1 K1 n1 → P K1 → Wb g ad1 n1 K1 S1 A H1 → va_S A s.heap H1 locs1 → W p l e R s m args below meth c H1 locs1 (cells + mc) (slots + ms) Q (F0 m (pc + 3) ls ((o ad1).toList ++ rest))) : W p l e R s m args below meth c H locs cells slots Q (F0 m pc ls st0) := by
  have hCC := hC
  obtain ⟨hx, hb, hml, hown, hts, hK⟩ := hC
  subst ha
  have hw := wd_get (g := g) (ad := ad) (K := K) (S := S) hi.1
  rw [cE_obj hi.2 hci.2] at hw
  exact x_aback (va_runSU (rest := rest) (As := As) (hK.1 _ _ hci.1).2 ⟨hx, hb, hml, hown, hts⟩ hM cw ⟨x_blind, va_recv hK hW.1 hci.1 hw, fun U hU hWm => ⟨rfl, x_pre hCC hW hS hG hA hU hWm⟩⟩ rfl hn hls hst (lv_room hR) hdg hf) hW hS hA kk
theorem x_callU {C owner index x y bytes maxL ret ws rm As na i0 ci T N o S1 st0} {P : Prop} (hC : Cx g p s m args c cc own Ts nL) (hls : ls.size = nL) (hW : Wb g ad n K S A H) (hS : va_S A s.heap H locs) (hG : GF g A s s.heap) (hA : ∀ q, s.heap.size ≤ q → A q) (hi : i0 < n ∧ K i0 = ci) (ha : a = ad i0) (hci : vwCl[ci]? = some (C, T, N) ∧ ob ci)
    (hM : Met l y ws rm (va_Pc (.ref a :: As) (PB g ad n K S H.size)) (QR o (QB g ad n K S1 (dA ad n H.size) P) (dA ad n H.size)) 0 0 (dA ad n H.size))
    (cw : va_CU R s args own C owner index x y bytes maxL ret ws rm 0 0 na) (hn : As.length = na) (hst : st0 = As.reverse ++ .ref a :: rest) (hR : (rest.map fun v => v.category).sum ≤ 8) (hdg : decode cc pc = .ok (.invokevirtual index, 3)) (hf : cells ≤ R.cells ∧ slots ≤ R.slots)
    (kk : ∀ (H1 : Heap) (locs1 : List Loc), P → Wb g ad n K S1 A H1 → va_S A s.heap H1 locs1 → W p l e R s m args below meth c H1 locs1 cells slots Q (F0 m (pc + 3) ls (o.toList ++ rest))) : W p l e R s m args below meth c H locs cells slots Q (F0 m pc ls st0) := by
  have hCC := hC
  obtain ⟨hx, hb, hml, hown, hts, hK⟩ := hC
  subst ha
  have hw := wd_get (g := g) (ad := ad) (K := K) (S := S) hi.1
  rw [cE_obj hi.2 hci.2] at hw
  exact x_back (va_runU (rest := rest) (As := As) ⟨hx, hb, hml, hown, hts⟩ hM cw ⟨x_blind, va_recv hK hW.1 hci.1 hw, fun U hU hWm => ⟨rfl, x_pre hCC hW hS hG hA hU hWm⟩⟩ rfl hn hls hst (lv_room hR) hdg hf) hW hS hA kk
theorem x_callSU {C index y bytes maxL ret ws rm As na i0 ci T N o S1 st0} {P : Prop} (hC : Cx g p s m args c cc own Ts nL) (hls : ls.size = nL) (hW : Wb g ad n K S A H) (hS : va_S A s.heap H locs) (hG : GF g A s s.heap) (hA : ∀ q, s.heap.size ≤ q → A q) (hi : i0 < n ∧ K i0 = ci) (ha : a = ad i0) (hci : vwCl[ci]? = some (C, T, N) ∧ ob ci)
    (hM : Met l y ws rm (va_Pc (.ref a :: As) (PB g ad n K S H.size)) (QR o (QB g ad n K S1 (dA ad n H.size) P) (dA ad n H.size)) 0 0 (dA ad n H.size))
    (cw : va_CS R s args own index y bytes maxL ret ws rm 0 0 na) (hn : As.length = na) (hst : st0 = As.reverse ++ .ref a :: rest) (hR : (rest.map fun v => v.category).sum ≤ 8) (hdg : decode cc pc = .ok (.invokespecial index, 3)) (hf : cells ≤ R.cells ∧ slots ≤ R.slots)
    (kk : ∀ (H1 : Heap) (locs1 : List Loc), P → Wb g ad n K S1 A H1 → va_S A s.heap H1 locs1 → W p l e R s m args below meth c H1 locs1 cells slots Q (F0 m (pc + 3) ls (o.toList ++ rest))) : W p l e R s m args below meth c H locs cells slots Q (F0 m pc ls st0) := by
  have hCC := hC
  obtain ⟨hx, hb, hml, hown, hts, hK⟩ := hC
  subst ha
  have hw := wd_get (g := g) (ad := ad) (K := K) (S := S) hi.1
  rw [cE_obj hi.2 hci.2] at hw
  exact x_back (va_runSU (rest := rest) (As := As) (hK.1 _ _ hci.1).2 ⟨hx, hb, hml, hown, hts⟩ hM cw ⟨x_blind, va_recv hK hW.1 hci.1 hw, fun U hU hWm => ⟨rfl, x_pre hCC hW hS hG hA hU hWm⟩⟩ rfl hn hls hst (lv_room hR) hdg hf) hW hS hA kk
end XT
