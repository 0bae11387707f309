/-! methods that throw: what they answer is a number of a class of exceptions or a value -/
def exn : Nat → String
  | 1 => "java/lang/IllegalStateException"
  | 2 => "java/lang/IllegalArgumentException"
  | 3 => "java/lang/IndexOutOfBoundsException"
  | _ => "java/util/NoSuchElementException"
def sm {α β : Type} (o : Nat ⊕ α) (a : Nat → β) (b : α → β) : β := match o with
  | .inl x => a x
  | .inr r => b r
theorem smL {α β : Type} {o : Nat ⊕ α} {a : Nat → β} {b : α → β} {r : β} {x : Nat} (hq : o = .inl x) (h : sm o a b = r) : a x = r := by subst hq; exact h
theorem smR {α β : Type} {o : Nat ⊕ α} {a : Nat → β} {b : α → β} {r : β} {x : α} (hq : o = .inr x) (h : sm o a b = r) : b x = r := by subst hq; exact h
def exNm : List String := ["java/lang/RuntimeException", "java/lang/Exception"]
theorem Wb.kept {g : GP} {ad : Nat → Nat} {n : Nat} {K : Nat → Nat} {S : St} {A : Nat → Prop} {H H1 : Heap} (h : Wb g ad n K S A H) (hq : ∀ q, q < H.size → H1[q]? = H[q]?) : Wb g ad n K S A H1 :=
  ⟨h.1.kept (fun k q hk => hq q.1 (h.1 k q hk).lt), h.2.1, h.2.2⟩
def QT {R : Type} (o : Nat ⊕ R) (vr : R → Option Value) (B : State → Prop) (A : Nat → Prop) : Array Value → State → Outcome → State → Prop := fun _ st oc t => (∃ r, o = .inr r ∧ oc = .returned (vr r) ∧ B t) ∧ va_F A st t
def XT {R : Type} (o : Nat ⊕ R) (B : State → Prop) (A : Nat → Prop) : String → State → State → Prop := fun E st t => (∃ x, o = .inl x ∧ E = exn x ∧ B t) ∧ va_F A st t
/-- a callee that makes cells: the address map has grown -/
def QA (ad K : Nat → Nat) (n : Nat) (o : (Nat → Nat) → Option Value) (g : GP) (n9 : Nat) (S9 : St) (A : Nat → Prop) (P : (Nat → Nat) → Prop) : Array Value → State → Outcome → State → Prop := fun _ st oc t => (∃ ad9 K9 : Nat → Nat, oc = .returned (o ad9) ∧ Ag ad K n ad9 K9 n9 ∧ P K9 ∧ Wb g ad9 n9 K9 S9 A t.heap) ∧ va_F A st t
section XT
variable {p : Program} {l : Launch} {e : Env} {R : Room} {s : State} {m : MethodId} {args : Array Value} {below : List Frame} {meth : Method} {c : Code} {H : Heap} {locs : List Loc} {cells slots : Nat} {Q : State → Prop}
variable {cc : ByteArray} {pc : Nat} {ls : Array Slot} {rest : List Value} {g : GP} {ad : Nat → Nat} {n : Nat} {K : Nat → Nat} {S : St} {A : Nat → Prop} {own : String} {Ts : List Cond} {nL : Nat} {a : Nat}
theorem x_hat {ic : Nat} {cls : String} (hG : GF g A s s.heap) (hat : ∀ w ∈ (vx_atS RX10 ic cls exNm).filter goodWord, w.before args s = true) (h2 : ∀ w ∈ (vx_atS RX10 ic cls exNm).filter (fun w => !goodWord w), w ∈ CSl) : ∀ w ∈ vx_atS RX10 ic cls exNm, w.before args s = true := by
  refine vx_hat hat h2 (fun w hw => ?_)
  have hz := hG.2.1 w hw
  simp only [CSl, List.mem_cons, List.not_mem_nil, or_false] at hw
  rcases hw with rfl | rfl | rfl | rfl | rfl | rfl | rfl <;> exact va_Nw.use rfl hz
theorem x_throwS {Qc : Array Value → State → Outcome → State → Prop} {XC : String → State → State → Prop} {text : String} {x ik is ic mc ms : Nat} (hC : Cx g p s m args c cc RX10 Ts nL) (hl : l.stackTraces = false) (hno : ∀ x ∈ c.exceptionTable.toList, False) (hls : ls.size = nL) (hG : GF g A s s.heap) (hS : va_S A s.heap H locs) (hlk : meth.locks = false)
    (hk : (Cond.classLink RX10 ik (exn x)).before args s = true) (hini : (Cond.initialized (exn x)).before args s = true) (hstr : (is, text) ∈ STl) (hat : ∀ w ∈ (vx_atS RX10 ic (exn x) exNm).filter goodWord, w.before args s = true) (hE : Bundle.fit (exn x) = true ∧ (∀ w ∈ (vx_atS RX10 ic (exn x) exNm).filter (fun w => !goodWord w), w ∈ CSl) ∧ ∀ w ∈ Cond.classLink RX10 ik (exn x) :: Cond.initialized (exn x) :: vx_atS RX10 ic (exn x) exNm, vx_ot w = true)
    (d0 : decode cc pc = .ok (.new ik, 3)) (d3 : decode cc (pc + 3) = .ok (.dup, 1)) (d4 : decode cc (pc + 4) = .ok (.ldc is, 2)) (d6 : decode cc (pc + 6) = .ok (.invokespecial ic, 3)) (d9 : decode cc (pc + 9) = .ok (.athrow, 1))
    (hRf : 5 < R.frames) (hRl : (rest.map fun v => v.category).sum + 82 ≤ R.locals) (hRc : cells + 1 ≤ R.cells) (hRs : slots + 6 ≤ R.slots) (hc : cells + 1 ≤ mc) (hs : slots + 6 ≤ ms)
    (hx : ∀ t : State, s.vm.Alike t.vm → (∀ q : Nat, q < H.size → t.heap[q]? = H[q]?) → va_F A s t → XC (exn x) s t) :
    W p l e R s m args below meth c H locs cells slots (vx_MQ below Qc XC args s mc ms A) (F0 m pc ls rest) := by
  obtain ⟨hxx, hb, hml, hown, hts, hK⟩ := hC
  obtain ⟨sa, hsa⟩ := hG.2.2.2.1 _ hstr
  refine vx_throwS (names := exNm) (text := text) hxx hb hl hown hE.1 (by decide) hk hini hsa (x_hat hG hat hE.2.1) hE.2.2 hG.2.2.2.2.1 hG.2.2.2.2.2.1 hS (by rw [hml]; exact hls) d0 d3 d4 d6 d9 (fun x hx => absurd hx (fun h => hno x h)) hRf hRl hRc hRs hlk (fun t hv hz hq => ?_) hS.2.2 hc hs
  refine hx t hv hq ⟨Nat.le_trans hS.1 hz, fun q h1 h2 => ?_⟩
  rw [hq q (Nat.lt_of_lt_of_le h1 hS.1)]
  exact hS.2.1 q h1 h2
theorem x_throwSW {Qc : Array Value → State → Outcome → State → Prop} {XC : String → State → State → Prop} {text : String} {x ik is ic mc ms : Nat} (hC : Cx g p s m args c cc RX10 Ts nL) (hl : l.stackTraces = false) (hno : ∀ x ∈ c.exceptionTable.toList, False) (hls : ls.size = nL) (hG : GF g A s s.heap) (hS : va_S A s.heap H locs) (hlk : meth.locks = false)
    (hk : (Cond.classLink RX10 ik (exn x)).before args s = true) (hini : (Cond.initialized (exn x)).before args s = true) (hstr : (is, text) ∈ STl) (hat : ∀ w ∈ (vx_atS RX10 ic (exn x) exNm).filter goodWord, w.before args s = true) (hE : Bundle.fit (exn x) = true ∧ (∀ w ∈ (vx_atS RX10 ic (exn x) exNm).filter (fun w => !goodWord w), w ∈ CSl) ∧ ∀ w ∈ Cond.classLink RX10 ik (exn x) :: Cond.initialized (exn x) :: vx_atS RX10 ic (exn x) exNm, vx_ot w = true)
    (d0 : decode cc pc = .ok (.new ik, 3)) (d3 : decode cc (pc + 3) = .ok (.dup, 1)) (d4 : decode cc (pc + 4) = .ok (.ldc_w is, 3)) (d6 : decode cc (pc + 7) = .ok (.invokespecial ic, 3)) (d9 : decode cc (pc + 10) = .ok (.athrow, 1))
    (hRf : 5 < R.frames) (hRl : (rest.map fun v => v.category).sum + 82 ≤ R.locals) (hRc : cells + 1 ≤ R.cells) (hRs : slots + 6 ≤ R.slots) (hc : cells + 1 ≤ mc) (hs : slots + 6 ≤ ms)
    (hx : ∀ t : State, s.vm.Alike t.vm → (∀ q : Nat, q < H.size → t.heap[q]? = H[q]?) → va_F A s t → XC (exn x) s t) :
    W p l e R s m args below meth c H locs cells slots (vx_MQ below Qc XC args s mc ms A) (F0 m pc ls rest) := by
  obtain ⟨hxx, hb, hml, hown, hts, hK⟩ := hC
  obtain ⟨sa, hsa⟩ := hG.2.2.2.1 _ hstr
  refine vx_throwSW (names := exNm) (text := text) hxx hb hl hown hE.1 (by decide) hk hini hsa (x_hat hG hat hE.2.1) hE.2.2 hG.2.2.2.2.1 hG.2.2.2.2.2.1 hS (by rw [hml]; exact hls) d0 d3 d4 d6 d9 (fun x hx => absurd hx (fun h => hno x h)) hRf hRl hRc hRs hlk (fun t hv hz hq => ?_) hS.2.2 hc hs
  refine hx t hv hq ⟨Nat.le_trans hS.1 hz, fun q h1 h2 => ?_⟩
  rw [hq q (Nat.lt_of_lt_of_le h1 hS.1)]
  exact hS.2.1 q h1 h2
theorem x_hatN {ic : Nat} (hG : GF g A s s.heap) (hat : ∀ w ∈ (nsAt RX10 ic).filter goodWord, w.before args s = true) (h2 : ∀ w ∈ (nsAt RX10 ic).filter (fun w => !goodWord w), w ∈ CSl) : ∀ w ∈ nsAt RX10 ic, w.before args s = true := by
  refine vx_hat hat h2 (fun w hw => ?_)
  have hz := hG.2.1 w hw
  simp only [CSl, List.mem_cons, List.not_mem_nil, or_false] at hw
  rcases hw with rfl | rfl | rfl | rfl | rfl | rfl | rfl <;> exact va_Nw.use rfl hz
theorem x_throwNS {Qc : Array Value → State → Outcome → State → Prop} {XC : String → State → State → Prop} {text : String} {ik is ic mc ms : Nat} (hC : Cx g p s m args c cc RX10 Ts nL) (hl : l.stackTraces = false) (hno : ∀ x ∈ c.exceptionTable.toList, False) (hls : ls.size = nL) (hG : GF g A s s.heap) (hS : va_S A s.heap H locs) (hlk : meth.locks = false)
    (hk : (Cond.classLink RX10 ik (nsE)).before args s = true) (hini : (Cond.initialized (nsE)).before args s = true) (hstr : (is, text) ∈ STl) (hat : ∀ w ∈ (nsAt RX10 ic).filter goodWord, w.before args s = true) (hE : True ∧ (∀ w ∈ (nsAt RX10 ic).filter (fun w => !goodWord w), w ∈ CSl) ∧ ∀ w ∈ Cond.classLink RX10 ik (nsE) :: Cond.initialized (nsE) :: nsAt RX10 ic, vx_ot w = true)
    (d0 : decode cc pc = .ok (.new ik, 3)) (d3 : decode cc (pc + 3) = .ok (.dup, 1)) (d4 : decode cc (pc + 4) = .ok (.ldc is, 2)) (d6 : decode cc (pc + 6) = .ok (.invokespecial ic, 3)) (d9 : decode cc (pc + 9) = .ok (.athrow, 1))
    (hRf : 5 < R.frames) (hRl : (rest.map fun v => v.category).sum + 82 ≤ R.locals) (hRc : cells + 1 ≤ R.cells) (hRs : slots + 6 ≤ R.slots) (hc : cells + 1 ≤ mc) (hs : slots + 6 ≤ ms)
    (hx : ∀ t : State, s.vm.Alike t.vm → (∀ q : Nat, q < H.size → t.heap[q]? = H[q]?) → va_F A s t → XC (nsE) s t) :
    W p l e R s m args below meth c H locs cells slots (vx_MQ below Qc XC args s mc ms A) (F0 m pc ls rest) := by
  obtain ⟨hxx, hb, hml, hown, hts, hK⟩ := hC
  obtain ⟨sa, hsa⟩ := hG.2.2.2.1 _ hstr
  refine vx_throwNS (text := text) hxx hb hl hown hk hini hsa (x_hatN hG hat hE.2.1) hE.2.2 hG.2.2.2.2.1 hG.2.2.2.2.2.1 hS (by rw [hml]; exact hls) d0 d3 d4 d6 d9 (fun x hx => absurd hx (fun h => hno x h)) hRf hRl hRc hRs hlk (fun t hv hz hq => ?_) hS.2.2 hc hs
  refine hx t hv hq ⟨Nat.le_trans hS.1 hz, fun q h1 h2 => ?_⟩
  rw [hq q (Nat.lt_of_lt_of_le h1 hS.1)]
  exact hS.2.1 q h1 h2
theorem x_throwNSW {Qc : Array Value → State → Outcome → State → Prop} {XC : String → State → State → Prop} {text : String} {ik is ic mc ms : Nat} (hC : Cx g p s m args c cc RX10 Ts nL) (hl : l.stackTraces = false) (hno : ∀ x ∈ c.exceptionTable.toList, False) (hls : ls.size = nL) (hG : GF g A s s.heap) (hS : va_S A s.heap H locs) (hlk : meth.locks = false)
    (hk : (Cond.classLink RX10 ik (nsE)).before args s = true) (hini : (Cond.initialized (nsE)).before args s = true) (hstr : (is, text) ∈ STl) (hat : ∀ w ∈ (nsAt RX10 ic).filter goodWord, w.before args s = true) (hE : True ∧ (∀ w ∈ (nsAt RX10 ic).filter (fun w => !goodWord w), w ∈ CSl) ∧ ∀ w ∈ Cond.classLink RX10 ik (nsE) :: Cond.initialized (nsE) :: nsAt RX10 ic, vx_ot w = true)
    (d0 : decode cc pc = .ok (.new ik, 3)) (d3 : decode cc (pc + 3) = .ok (.dup, 1)) (d4 : decode cc (pc + 4) = .ok (.ldc_w is, 3)) (d6 : decode cc (pc + 7) = .ok (.invokespecial ic, 3)) (d9 : decode cc (pc + 10) = .ok (.athrow, 1))
    (hRf : 5 < R.frames) (hRl : (rest.map fun v => v.category).sum + 82 ≤ R.locals) (hRc : cells + 1 ≤ R.cells) (hRs : slots + 6 ≤ R.slots) (hc : cells + 1 ≤ mc) (hs : slots + 6 ≤ ms)
    (hx : ∀ t : State, s.vm.Alike t.vm → (∀ q : Nat, q < H.size → t.heap[q]? = H[q]?) → va_F A s t → XC (nsE) s t) :
    W p l e R s m args below meth c H locs cells slots (vx_MQ below Qc XC args s mc ms A) (F0 m pc ls rest) := by
  obtain ⟨hxx, hb, hml, hown, hts, hK⟩ := hC
  obtain ⟨sa, hsa⟩ := hG.2.2.2.1 _ hstr
  refine vx_throwNSW (text := text) hxx hb hl hown hk hini hsa (x_hatN hG hat hE.2.1) hE.2.2 hG.2.2.2.2.1 hG.2.2.2.2.2.1 hS (by rw [hml]; exact hls) d0 d3 d4 d6 d9 (fun x hx => absurd hx (fun h => hno x h)) hRf hRl hRc hRs hlk (fun t hv hz hq => ?_) hS.2.2 hc hs
  refine hx t hv hq ⟨Nat.le_trans hS.1 hz, fun q h1 h2 => ?_⟩
  rw [hq q (Nat.lt_of_lt_of_le h1 hS.1)]
  exact hS.2.1 q h1 h2
/-- behind a call of a method that returns or throws -/
theorem x_tback {R9 : Type} {mc ms : Nat} {o : Nat ⊕ R9} {vr : R9 → Option Value} {S1 : St} {P : Prop} {st0 : List Value} {av : Array Value} (hr : vx_Run p l e R s m args below meth c H locs cells slots mc ms (F0 m pc ls st0) rest (QT o vr (QB g ad n K S1 (dA ad n H.size) P) (dA ad n H.size) av) (XT o (QB g ad n K S1 (dA ad n H.size) True) (dA ad n H.size)) (dA ad n H.size)) (hW : Wb g ad n K S A H) (hS : va_S A s.heap H locs) (hA : ∀ q, s.heap.size ≤ q → A q)
    (kx : ∀ (x : Nat) (H1 : Heap) (locs1 : List Loc) (ce : Cell) (q9 : Addr), o = .inl x → Wb g ad n K S1 A H1 → va_S A s.heap H1 locs1 → H1[q9]? = some ce → ce.vm = .none → s.vm.findClass (exn x) = some ce.cls → vx_W p l e R s m args below meth c H1 locs1 (cells + mc) (slots + ms) Q (F0 m pc ls rest) q9)
    (kk : ∀ (r : R9) (H1 : Heap) (locs1 : List Loc), o = .inr r → P → Wb g ad n K S1 A H1 → va_S A s.heap H1 locs1 → W p l e R s m args below meth c H1 locs1 (cells + mc) (slots + ms) Q (F0 m (pc + 3) ls ((vr r).toList ++ rest))) : W p l e R s m args below meth c H locs cells slots Q (F0 m pc ls st0) := by
  have hf := x_free hW hS hA
  have key : ∀ {T' t st₀ : State} {L : List Loc}, st₀.heap = H → T'.heap = t.heap → va_F (dA ad n H.size) st₀ t → (∀ q ∈ L, dA ad n H.size q.base) → va_S A s.heap T'.heap (locs ++ L) := by
    intro T' t st₀ L h0 e1 hF hL
    obtain ⟨hz, hk⟩ := hF
    rw [h0] at hz hk
    refine ⟨?_, ?_, ?_⟩
    · rw [e1]; exact Nat.le_trans hS.1 hz
    · intro q hq hnq
      rw [e1, hk q (Nat.lt_of_lt_of_le hq hS.1) (fun h => hnq (hf q h))]
      exact hS.2.1 q hq hnq
    · intro z hzz
      rcases List.mem_append.mp hzz with h | h
      · exact hS.2.2 z h
      · exact hf _ (hL z h)
  intro T hT X
  rcases hr T hT X with ⟨v, st₀, t, T', L, h0, X', hL, e1, e2, ⟨⟨r, ho, hv, hB, hP⟩, hF⟩, st⟩ | ⟨q9, st₀, t, T', L, E, ce, h0, X', hL, e1, e2, ⟨⟨x, ho, hE, hB, -⟩, hF⟩, hc1, hc2, hc3, st⟩
  · cases hv
    have hB1 : Wb g ad n K S1 A T'.heap := by
      rw [e1]
      exact ⟨hB.1, hB.2.1.weaken (fun _ q _ h => hf q.1 h), hB.2.2⟩
    obtain ⟨t', a1, b1⟩ := kk r T'.heap (locs ++ L) ho hP hB1 (key h0 e1 hF hL) T' rfl X'
    exact ⟨t', st t' a1, b1⟩
  · subst hE
    have hB1 : Wb g ad n K S1 A T'.heap := by
      rw [e1]
      exact ⟨hB.1, hB.2.1.weaken (fun _ q _ h => hf q.1 h), hB.2.2⟩
    obtain ⟨t', a1, b1⟩ := kx x T'.heap (locs ++ L) ce q9 ho hB1 (key h0 e1 hF hL) (by rw [e1]; exact hc1) hc2 hc3 T' rfl X'
    exact ⟨t', st.trans a1, b1⟩
/-- a thrown exception leaves this method too -/
theorem x_tout {R9 : Type} {o : Nat ⊕ R9} {Qc : Array Value → State → Outcome → State → Prop} {S1 : St} {x mc ms : Nat} {ce : Cell} {q9 : Addr} (hno : ∀ x ∈ c.exceptionTable.toList, False) (hlk : meth.locks = false) (ho : o = .inl x) (hW : Wb g ad n K S1 (dA ad n s.heap.size) H) (hS : va_S (dA ad n s.heap.size) s.heap H locs) (hcell : H[q9]? = some ce) (hv : ce.vm = .none) (hcl : s.vm.findClass (exn x) = some ce.cls) (hc : cells ≤ mc) (hs : slots ≤ ms) :
    vx_W p l e R s m args below meth c H locs cells slots (vx_MQ below Qc (XT o (QB g ad n K S1 (dA ad n s.heap.size) True) (dA ad n s.heap.size)) args s mc ms (dA ad n s.heap.size)) (F0 m pc ls rest) q9 :=
  vx_out (fun x hx => absurd hx (fun h => hno x h)) hlk hcell hv hcl (fun t ht _ => ⟨⟨x, ho, rfl, by rw [ht]; exact hW, trivial⟩, hS.F ht⟩) hS.2.2 hc hs
theorem x_tcallV {R9 : Type} {C index y bytes maxL ret ws rm As na i0 ci T N S1 st0 mc ms} {o : Nat ⊕ R9} {vr : R9 → Option Value} {P : Prop} (hC : Cx g p s m args c cc own Ts nL) (hls : ls.size = nL) (hW : Wb g ad n K S A H) (hS : va_S A s.heap H locs) (hG : GF g A s s.heap) (hA : ∀ q, s.heap.size ≤ q → A q) (hi : i0 < n ∧ K i0 = ci) (ha : a = ad i0) (hci : vwCl[ci]? = some (C, T, N) ∧ ci < 11)
    (hM : vx_Met l y ws rm (va_Pc (.ref a :: As) (PB g ad n K S H.size)) (QT o vr (QB g ad n K S1 (dA ad n H.size) P) (dA ad n H.size)) (XT o (QB g ad n K S1 (dA ad n H.size) True) (dA ad n H.size)) mc ms (dA ad n H.size))
    (cw : CallW R s args own C index y bytes maxL ret ws rm mc ms na) (hn : As.length = na) (hst : st0 = As.reverse ++ .ref a :: rest) (hR : (rest.map fun v => v.category).sum ≤ 8) (hdg : decode cc pc = .ok (.invokevirtual index, 3)) (hf : cells + mc ≤ R.cells ∧ slots + ms ≤ R.slots)
    (kx : ∀ (x : Nat) (H1 : Heap) (locs1 : List Loc) (ce : Cell) (q9 : Addr), o = .inl x → Wb g ad n K S1 A H1 → va_S A s.heap H1 locs1 → H1[q9]? = some ce → ce.vm = .none → s.vm.findClass (exn x) = some ce.cls → vx_W p l e R s m args below meth c H1 locs1 (cells + mc) (slots + ms) Q (F0 m pc ls rest) q9)
    (kk : ∀ (r : R9) (H1 : Heap) (locs1 : List Loc), o = .inr r → P → Wb g ad n K S1 A H1 → va_S A s.heap H1 locs1 → W p l e R s m args below meth c H1 locs1 (cells + mc) (slots + ms) Q (F0 m (pc + 3) ls ((vr r).toList ++ rest))) : W p l e R s m args below meth c H locs cells slots Q (F0 m pc ls st0) := by
  have hCC := hC
  obtain ⟨hx, hb, hml, hown, hts, hK⟩ := hC
  subst ha
  have hw := wd_get (g := g) (ad := ad) (K := K) (S := S) hi.1
  rw [cE_obj hi.2 hci.2] at hw
  exact x_tback (vx_runV (rest := rest) (As := As) ⟨hx, hb, hml, hown, hts⟩ hM cw ⟨x_blind, va_recv hK hW.1 hci.1 hw, fun U hU hWm => ⟨rfl, x_pre hCC hW hS hG hA hU hWm⟩⟩ rfl hn hls hst (lv_room hR) hdg hf) hW hS hA kx kk
theorem x_tcallS {R9 : Type} {index y bytes maxL ret ws rm As na S1 st0 mc ms} {o : Nat ⊕ R9} {vr : R9 → Option Value} {P : Prop} (hC : Cx g p s m args c cc own Ts nL) (hls : ls.size = nL) (hW : Wb g ad n K S A H) (hS : va_S A s.heap H locs) (hG : GF g A s s.heap) (hA : ∀ q, s.heap.size ≤ q → A q)
    (hM : vx_Met l y ws rm (va_Pc As (PB g ad n K S H.size)) (QT o vr (QB g ad n K S1 (dA ad n H.size) P) (dA ad n H.size)) (XT o (QB g ad n K S1 (dA ad n H.size) True) (dA ad n H.size)) mc ms (dA ad n H.size))
    (cw : CallB R s args own index y bytes maxL ret ws rm mc ms na ∧ (Cond.static y).before args s = true) (hn : As.length = na) (hst : st0 = As.reverse ++ rest) (hR : (rest.map fun v => v.category).sum ≤ 8) (hdg : decode cc pc = .ok (.invokestatic index, 3)) (hf : cells + mc ≤ R.cells ∧ slots + ms ≤ R.slots)
    (kx : ∀ (x : Nat) (H1 : Heap) (locs1 : List Loc) (ce : Cell) (q9 : Addr), o = .inl x → Wb g ad n K S1 A H1 → va_S A s.heap H1 locs1 → H1[q9]? = some ce → ce.vm = .none → s.vm.findClass (exn x) = some ce.cls → vx_W p l e R s m args below meth c H1 locs1 (cells + mc) (slots + ms) Q (F0 m pc ls rest) q9)
    (kk : ∀ (r : R9) (H1 : Heap) (locs1 : List Loc), o = .inr r → P → Wb g ad n K S1 A H1 → va_S A s.heap H1 locs1 → W p l e R s m args below meth c H1 locs1 (cells + mc) (slots + ms) Q (F0 m (pc + 3) ls ((vr r).toList ++ rest))) : W p l e R s m args below meth c H locs cells slots Q (F0 m pc ls st0) := by
  have hCC := hC
  obtain ⟨hx, hb, hml, hown, hts, hK⟩ := hC
  exact x_tback (vx_runS (rest := rest) (As := As) ⟨hx, hb, hml, hown, hts⟩ hM cw ⟨x_blind, fun U hU hWm => ⟨rfl, x_pre hCC hW hS hG hA hU hWm⟩⟩ rfl hn hls hst (lv_room hR) hdg hf) hW hS hA kx kk
/-- behind a call of a method that makes cells -/
theorem x_aback {mc ms n1 : Nat} {o : (Nat → Nat) → Option Value} {S1 : St} {P : (Nat → Nat) → Prop} {st0 : List Value} {av : Array Value} (hr : va_Run p l e R s m args below meth c H locs cells slots mc ms (F0 m pc ls st0) rest (QA ad K n o g n1 S1 (dA ad n H.size) P av) (dA ad n H.size)) (hW : Wb g ad n K S A H) (hS : va_S A s.heap H locs) (hA : ∀ q, s.heap.size ≤ q → A q)
    (kk : ∀ (ad1 K1 : Nat → Nat) (H1 : Heap) (locs1 : List Loc), Ag ad K n ad1 K1 n1 → P K1 → Wb g ad1 n1 K1 S1 A H1 → va_S A s.heap H1 locs1 → W p l e R s m args below meth c H1 locs1 (cells + mc) (slots + ms) Q (F0 m (pc + 3) ls ((o ad1).toList ++ rest))) : W p l e R s m args below meth c H locs cells slots Q (F0 m pc ls st0) := by
  have hf := x_free hW hS hA
  intro T hT X
  obtain ⟨v, st₀, t, T', L, h0, X', hL, e1, e2, ⟨⟨ad9, K9, hv, hAg, hP, hB⟩, hz, hk⟩, st⟩ := hr T hT X
  cases hv
  rw [h0] at hz hk
  have hS1 : va_S A s.heap T'.heap (locs ++ L) := by
    refine ⟨?_, ?_, ?_⟩
    · rw [e1]; exact Nat.le_trans hS.1 hz
    · intro q hq hnq
      rw [e1, hk q (Nat.lt_of_lt_of_le hq hS.1) (fun h => hnq (hf q h))]
      exact hS.2.1 q hq hnq
    · intro z hzz
      rcases List.mem_append.mp hzz with h | h
      · exact hS.2.2 z h
      · exact hf _ (hL z h)
  have hB1 : Wb g ad9 n1 K9 S1 A T'.heap := by
    rw [e1]
    exact ⟨hB.1, hB.2.1.weaken (fun _ q _ h => hf q.1 h), hB.2.2⟩
  obtain ⟨t', a1, b1⟩ := kk ad9 K9 T'.heap (locs ++ L) hAg hP hB1 hS1 T' rfl X'
  exact ⟨t', st t' a1, b1⟩
theorem x_acallV {C index y bytes maxL ret ws rm As na i0 ci T N S1 st0 mc ms n1} {o : (Nat → Nat) → Option Value} {P : (Nat → Nat) → Prop} (hC : Cx g p s m args c cc own Ts nL) (hls : ls.size = nL) (hW : Wb g ad n K S A H) (hS : va_S A s.heap H locs) (hG : GF g A s s.heap) (hA : ∀ q, s.heap.size ≤ q → A q) (hi : i0 < n ∧ K i0 = ci) (ha : a = ad i0) (hci : vwCl[ci]? = some (C, T, N) ∧ ci < 11)
    (hM : Met l y ws rm (va_Pc (.ref a :: As) (PB g ad n K S H.size)) (QA ad K n o g n1 S1 (dA ad n H.size) P) mc ms (dA ad n H.size))
    (cw : CallW R s args own C index y bytes maxL ret ws rm mc ms na) (hn : As.length = na) (hst : st0 = As.reverse ++ .ref a :: rest) (hR : (rest.map fun v => v.category).sum ≤ 8) (hdg : decode cc pc = .ok (.invokevirtual index, 3)) (hf : cells + mc ≤ R.cells ∧ slots + ms ≤ R.slots)
    (kk : ∀ (ad1 K1 : Nat → Nat) (H1 : Heap) (locs1 : List Loc), Ag ad K n ad1 K1 n1 → P K1 → Wb g ad1 n1 K1 S1 A H1 → va_S A s.heap H1 locs1 → W p l e R s m args below meth c H1 locs1 (cells + mc) (slots + ms) Q (F0 m (pc + 3) ls ((o ad1).toList ++ rest))) : W p l e R s m args below meth c H locs cells slots Q (F0 m pc ls st0) := by
  have hCC := hC
  obtain ⟨hx, hb, hml, hown, hts, hK⟩ := hC
  subst ha
  have hw := wd_get (g := g) (ad := ad) (K := K) (S := S) hi.1
  rw [cE_obj hi.2 hci.2] at hw
  exact x_aback (va_runV (rest := rest) (As := As) ⟨hx, hb, hml, hown, hts⟩ hM cw ⟨x_blind, va_recv hK hW.1 hci.1 hw, fun U hU hWm => ⟨rfl, x_pre hCC hW hS hG hA hU hWm⟩⟩ rfl hn hls hst (lv_room hR) hdg hf) hW hS hA kk
/-- a constructor -/
theorem x_acallI {index y bytes maxL ws rm As na S1 st0 mc ms n1} {o : (Nat → Nat) → Option Value} {P : (Nat → Nat) → Prop} (hC : Cx g p s m args c cc own Ts nL) (hls : ls.size = nL) (hW : Wb g ad n K S A H) (hS : va_S A s.heap H locs) (hG : GF g A s s.heap) (hA : ∀ q, s.heap.size ≤ q → A q)
    (hM : Met l y ws rm (va_Pc (.ref a :: As) (PB g ad n K S H.size)) (QA ad K n o g n1 S1 (dA ad n H.size) P) mc ms (dA ad n H.size))
    (cw : CallB R s args own index y bytes maxL none ws rm mc ms na ∧ y.name = "<init>" ∧ (Cond.instanceMethod y).before args s = true) (hn : As.length = na) (hst : st0 = As.reverse ++ .ref a :: rest) (hR : (rest.map fun v => v.category).sum ≤ 8) (hdg : decode cc pc = .ok (.invokespecial index, 3)) (hf : cells + mc ≤ R.cells ∧ slots + ms ≤ R.slots)
    (kk : ∀ (ad1 K1 : Nat → Nat) (H1 : Heap) (locs1 : List Loc), Ag ad K n ad1 K1 n1 → P K1 → Wb g ad1 n1 K1 S1 A H1 → va_S A s.heap H1 locs1 → W p l e R s m args below meth c H1 locs1 (cells + mc) (slots + ms) Q (F0 m (pc + 3) ls ((o ad1).toList ++ rest))) : W p l e R s m args below meth c H locs cells slots Q (F0 m pc ls st0) := by
  have hCC := hC
  obtain ⟨hx, hb, hml, hown, hts, hK⟩ := hC
  exact x_aback (va_runI (rest := rest) (As := As) ⟨hx, hb, hml, hown, hts⟩ hM cw ⟨x_blind, fun U hU hWm => ⟨rfl, x_pre hCC hW hS hG hA hU hWm⟩⟩ rfl hn hls hst (lv_room hR) hdg hf) hW hS hA kk
theorem x_toutA {R9 : Type} {o : Nat ⊕ R9} {Qc : Array Value → State → Outcome → State → Prop} {S1 : St} {x mc ms n9 : Nat} {ad9 K9 : Nat → Nat} {ce : Cell} {q9 : Addr} (hno : ∀ x ∈ c.exceptionTable.toList, False) (hlk : meth.locks = false) (ho : o = .inl x) (hag : Ag ad K n ad9 K9 n9) (hW : Wb g ad9 n9 K9 S1 (dA ad n s.heap.size) H) (hS : va_S (dA ad n s.heap.size) s.heap H locs) (hcell : H[q9]? = some ce) (hv : ce.vm = .none) (hcl : s.vm.findClass (exn x) = some ce.cls) (hc : cells ≤ mc) (hs : slots ≤ ms) :
    vx_W p l e R s m args below meth c H locs cells slots (vx_MQ below Qc (XT o (fun t => ∃ ad9 K9 : Nat → Nat, Ag ad K n ad9 K9 n9 ∧ Wb g ad9 n9 K9 S1 (dA ad n s.heap.size) t.heap) (dA ad n s.heap.size)) args s mc ms (dA ad n s.heap.size)) (F0 m pc ls rest) q9 :=
  vx_out (fun x hx => absurd hx (fun h => hno x h)) hlk hcell hv hcl (fun t ht _ => ⟨⟨x, ho, rfl, ad9, K9, hag, by rw [ht]; exact hW⟩, hS.F ht⟩) hS.2.2 hc hs
end XT
