/-! texts: a text below 41 is one of the law's constants, from 41 on an object of the world; their bytes' arrays likewise -/
def sad (g : GP) (ad : Nat → Nat) (x : Nat) : Nat := if x < 41 then gen g (100 + x) else ad (x - 41)
def vad (g : GP) (ad : Nat → Nat) (x : Nat) : Nat := if x < 41 then gen g (200 + x) else ad (x - 41)
def tS (k n : Nat) (K : Nat → Nat) (x : Nat) : Prop := 41 ≤ x → x - 41 < n ∧ K (x - 41) = k
def sco (S : St) (x : Nat) : Int32 := if x < 41 then 0 else si S 1801 (x - 41)
def sva (S : St) (x : Nat) : Option Nat := if x < 41 then some x else (sr S 1800 (x - 41)).map (· + 41)
def sln (S : St) (y : Nat) : Nat := if y < 41 then msL.getD y 0 else ln S (y - 41)
def sby (S : St) (y : Nat) : Nat → Int32 := if y < 41 then fun j => (msB.getD y []).getD j 0 else ai S (y - 41)
theorem sad_o {g : GP} {ad : Nat → Nat} {j : Nat} : ad j = sad g ad (j + 41) := by
  unfold sad
  rw [if_neg (by omega), Nat.add_sub_cancel]
theorem vad_o {g : GP} {ad : Nat → Nat} {j : Nat} : ad j = vad g ad (j + 41) := by
  unfold vad
  rw [if_neg (by omega), Nat.add_sub_cancel]
theorem tS_o {k n : Nat} {K : Nat → Nat} {j : Nat} (h : j < n ∧ K j = k) : tS k n K (j + 41) := fun _ => by
  rw [Nat.add_sub_cancel]
  exact h
theorem tS_c {k n : Nat} {K : Nat → Nat} {x : Nat} (h : x < 41) : tS k n K x := fun q => absurd q (Nat.not_le.mpr h)
theorem Ag.s {ad K ad' K' : Nat → Nat} {n n' x k : Nat} (h : Ag ad K n ad' K' n') (ht : tS k n K x) : tS k n' K' x := fun q => h.t (ht q)
theorem Ag.se {g : GP} {ad K ad' K' : Nat → Nat} {n n' x k a : Nat} (h : Ag ad K n ad' K' n') (ht : tS k n K x) (ha : a = sad g ad x) : a = sad g ad' x := by
  rw [ha]
  unfold sad
  by_cases q : x < 41
  · rw [if_pos q, if_pos q]
  · rw [if_neg q, if_neg q]
    exact ((h.2 _ (ht (Nat.not_lt.mp q)).1).1).symm
theorem Ag.ve {g : GP} {ad K ad' K' : Nat → Nat} {n n' x k a : Nat} (h : Ag ad K n ad' K' n') (ht : tS k n K x) (ha : a = vad g ad x) : a = vad g ad' x := by
  rw [ha]
  unfold vad
  by_cases q : x < 41
  · rw [if_pos q, if_pos q]
  · rw [if_neg q, if_neg q]
    exact ((h.2 _ (ht (Nat.not_lt.mp q)).1).1).symm
theorem sln_o (S : St) (j : Nat) : sln S (j + 41) = ln S j := by
  unfold sln
  rw [if_neg (by omega), Nat.add_sub_cancel]
theorem sby_o (S : St) (j : Nat) : sby S (j + 41) = ai S j := by
  unfold sby
  rw [if_neg (by omega), Nat.add_sub_cancel]
theorem sco_o (S : St) (j : Nat) : sco S (j + 41) = si S 1801 j := by
  unfold sco
  rw [if_neg (by omega), Nat.add_sub_cancel]
theorem sva_o (S : St) (j : Nat) : sva S (j + 41) = (sr S 1800 j).map (· + 41) := by
  unfold sva
  rw [if_neg (by omega), Nat.add_sub_cancel]
theorem fb8 {v : Int32} (h : v.toInt8.toInt32 = v) : fits .byte (.int v) = true := by
  have := pk_fb v
  rwa [h] at this
section XS
variable {p : Program} {l : Launch} {e : Env} {R : Room} {s : State} {m : MethodId} {args : Array Value} {below : List Frame} {meth : Method} {c : Code} {H : Heap} {locs : List Loc} {cells slots : Nat} {Q : State → Prop}
variable {cc : ByteArray} {pc : Nat} {ls : Array Slot} {rest : List Value} {g : GP} {ad : Nat → Nat} {n : Nat} {K : Nat → Nat} {S : St} {A : Nat → Prop} {own : String} {Ts : List Cond} {nL : Nat} {a : Nat}
theorem x_tv {x y : Nat} (hW : Wb g ad n K S A H) (hy : sva S x = some y) : tS 11 n K y := by
  unfold sva at hy
  by_cases q : x < 41
  · rw [if_pos q] at hy
    cases hy
    exact tS_c q
  · rw [if_neg q] at hy
    cases hj : sr S 1800 (x - 41) with
    | none => rw [hj] at hy; cases hy
    | some j =>
      rw [hj] at hy
      cases hy
      exact tS_o (x_rt hW hj 11 ⟨by decide, rfl⟩)
theorem x_getCoder {index x : Nat} (hC : Cx g p s m args c cc own Ts nL) (hin : ∀ w ∈ u_ws RJ0 TJ0 4, w ∈ Ts) (hM : GM g A s s.heap) (hW : Wb g ad n K S A H) (hS : va_S A s.heap H locs) (hi : tS 18 n K x) (ha : a = sad g ad x) (hlink : (Cond.fieldLink own index "java/lang/String" "coder" "B").before args s = true) (hdg : decode cc pc = .ok (.getfield index, 3))
    (kk : W p l e R s m args below meth c H locs cells slots Q (F0 m (pc + 3) ls (.int (sco S x) :: rest))) : W p l e R s m args below meth c H locs cells slots Q (F0 m pc ls (.ref a :: rest)) := by
  subst ha
  unfold sad
  unfold sco at kk
  by_cases q : x < 41
  · rw [if_pos q]
    rw [if_pos q] at kk
    exact vk_getf hC.1 hC.2.1 (hM.1 x q).2.1 hS hC.2.2.2.1 hlink (fun x h => h) hdg kk
  · rw [if_neg q]
    rw [if_neg q] at kk
    exact x_geti 1801 (ci := 18) (C := RJ0) (T := TJ0) (N := 4) 1 hC hin hW (hi (Nat.not_lt.mp q)) rfl rfl ⟨by decide, by decide, rfl, rfl⟩ rfl hlink hdg kk
theorem x_getValue {index x y : Nat} (hC : Cx g p s m args c cc own Ts nL) (hin : ∀ w ∈ u_ws RJ0 TJ0 4, w ∈ Ts) (hM : GM g A s s.heap) (hW : Wb g ad n K S A H) (hS : va_S A s.heap H locs) (hi : tS 18 n K x) (ha : a = sad g ad x) (hlink : (Cond.fieldLink own index "java/lang/String" "value" "[B").before args s = true) (hdg : decode cc pc = .ok (.getfield index, 3)) (hy : sva S x = some y)
    (kk : W p l e R s m args below meth c H locs cells slots Q (F0 m (pc + 3) ls (.ref (vad g ad y) :: rest))) : W p l e R s m args below meth c H locs cells slots Q (F0 m pc ls (.ref a :: rest)) := by
  subst ha
  unfold sad
  unfold vad at kk
  unfold sva at hy
  by_cases q : x < 41
  · rw [if_pos q]
    rw [if_pos q] at hy
    cases hy
    rw [if_pos q] at kk
    exact vk_getf hC.1 hC.2.1 (hM.1 x q).2.2.1 hS hC.2.2.2.1 hlink (fun x h => h) hdg kk
  · rw [if_neg q]
    rw [if_neg q] at hy
    cases hj : sr S 1800 (x - 41) with
    | none => rw [hj] at hy; cases hy
    | some j =>
      rw [hj] at hy
      have hy' : y = j + 41 := (Option.some.inj hy).symm
      subst hy'
      rw [if_neg (by omega), Nat.add_sub_cancel] at kk
      exact x_getr 1800 (ci := 18) (C := RJ0) (T := TJ0) (N := 4) 0 hC hin hW (hi (Nat.not_lt.mp q)) rfl rfl ⟨by decide, by decide, rfl, rfl⟩ rfl hlink hdg hj kk
theorem x_salen {y : Nat} (hC : Cx g p s m args c cc own Ts nL) (hM : GM g A s s.heap) (hW : Wb g ad n K S A H) (hS : va_S A s.heap H locs) (hi : tS 11 n K y) (ha : a = vad g ad y) (hdg : decode cc pc = .ok (.arraylength, 1))
    (kk : W p l e R s m args below meth c H locs cells slots Q (F0 m (pc + 1) ls (.int (nI (sln S y)) :: rest))) : W p l e R s m args below meth c H locs cells slots Q (F0 m pc ls (.ref a :: rest)) := by
  subst ha
  unfold vad
  unfold sln at kk
  by_cases q : y < 41
  · rw [if_pos q]
    rw [if_pos q] at kk
    exact va_tlen hC.1 hC.2.1 (hM.1 y q).2.2.2 hS rfl hdg kk
  · rw [if_neg q]
    rw [if_neg q] at kk
    exact x_alen hC hW (hi (Nat.not_lt.mp q)) rfl ⟨by decide, by decide⟩ hdg kk
theorem x_sbald {y : Nat} {i : Int32} (hC : Cx g p s m args c cc own Ts nL) (hM : GM g A s s.heap) (hW : Wb g ad n K S A H) (hS : va_S A s.heap H locs) (hi : tS 11 n K y) (ha : a = vad g ad y) (hin : vp_in i (sln S y)) (hdg : decode cc pc = .ok (.baload, 1))
    (kk : W p l e R s m args below meth c H locs cells slots Q (F0 m (pc + 1) ls (.int (sby S y i.toNatClampNeg) :: rest))) : W p l e R s m args below meth c H locs cells slots Q (F0 m pc ls (.int i :: .ref a :: rest)) := by
  subst ha
  unfold vad
  unfold sln at hin
  unfold sby at kk
  by_cases q : y < 41
  · rw [if_pos q]
    rw [if_pos q] at kk hin
    exact va_tb hC.1 hC.2.1 (hM.1 y q).2.2.2 hS hin rfl hdg kk
  · rw [if_neg q]
    rw [if_neg q] at kk hin
    exact x_bald hC hW (hi (Nat.not_lt.mp q)) rfl rfl hin hdg kk
theorem e_saiB {i2 : Nat} {h : Nat → Int32} (hi2 : i2 < n ∧ K i2 = 11) : (wd g ad n K S).set i2 (ad i2, .inl (gcy g (11 - 11), ln S i2, .inl h)) = wd g ad n K (sai S i2 h) := by
  refine wd_set ?_ (fun j hj => cE_sai hj)
  rw [cE_i hi2.2 (Or.inl rfl)]
  simp only [ai, ln, sai, va_up, if_true]
/-- System.arraycopy from a text's bytes, or a builder's, into an array of bytes -/
theorem x_scpy {index : Nat} {y i2 : Nat} {a2 : Nat} {sp dp nn : Int32} (hC : Cx g p s m args c cc own Ts nL) (hml : c.maxLocals = ls.size) (hlink : (Cond.methodLink own index arraycopyName).before args s = true) (hnat : (Cond.native arraycopyName).before args s = true) (hstat : (Cond.static arraycopyName).before args s = true) (hini : (Cond.initialized "java/lang/System").before args s = true)
    (hM : GM g A s s.heap) (hW : Wb g ad n K S A H) (hS : va_S A s.heap H locs) (hi : tS 11 n K y) (ha : a = vad g ad y) (hi2 : i2 < n ∧ K i2 = 11) (ha2 : a2 = ad i2) (hin : ¬ sp < 0 ∧ ¬ dp < 0 ∧ ¬ nn < 0 ∧ sp.toNatClampNeg + nn.toNatClampNeg ≤ sln S y ∧ dp.toNatClampNeg + nn.toNatClampNeg ≤ ln S i2 ∧ ∀ k, k < nn.toNatClampNeg → (sby S y (sp.toNatClampNeg + k)).toInt8.toInt32 = sby S y (sp.toNatClampNeg + k)) (hframes : 1 ≤ R.frames) (hlocals : (rest.map fun v => v.category).sum + (nativeFrameWords "java/lang/System" "arraycopy" 5 + 11) ≤ R.locals) (hdg : decode cc pc = .ok (.invokestatic index, 3))
    (kk : ∀ (S1 : St) (H1 : Heap) (locs1 : List Loc), S1 = sai S i2 (va_cpy (sby S y) (ai S i2) sp.toNatClampNeg dp.toNatClampNeg nn.toNatClampNeg) → Wb g ad n K S1 A H1 → va_S A s.heap H1 locs1 → W p l e R s m args below meth c H1 locs1 cells slots Q (F0 m (pc + 3) ls rest)) : W p l e R s m args below meth c H locs cells slots Q (F0 m pc ls (.int nn :: .int dp :: .ref a2 :: .int sp :: .ref a :: rest)) := by
  obtain ⟨hx, hb, hmL, hown, hts, hK⟩ := hC
  subst ha ha2
  have hw2 := wd_get (g := g) (ad := ad) (K := K) (S := S) hi2.1
  rw [cE_i hi2.2 (Or.inl rfl)] at hw2
  obtain ⟨g1, g2, g3, g4, g5, g6⟩ := hin
  unfold vad
  by_cases q : y < 41
  · rw [if_pos q]
    have eb : sby S y = fun j => (msB.getD y []).getD j 0 := if_pos q
    have el : sln S y = msL.getD y 0 := if_pos q
    rw [eb] at kk g6
    rw [el] at g4
    refine vk_copyt hx hb hml hown hlink hnat hstat hini hK hW.1 hW.2.1 hS (f := fun j => (msB.getD y []).getD j 0) (hM.1 y q).2.2.2 i2 0 hw2 rfl g1 g2 g3 g4 g5 (fun i hi => fb8 (g6 i hi)) hframes hlocals hdg (fun H1 locs1 hP hD hS1 => ?_)
    rw [e_saiB hi2] at hP hD
    exact kk _ H1 locs1 rfl ⟨hP, hD, WT_sai hW.2.2⟩ hS1
  · rw [if_neg q]
    have eb : sby S y = ai S (y - 41) := if_neg q
    have el : sln S y = ln S (y - 41) := if_neg q
    rw [eb] at kk g6
    rw [el] at g4
    have hi1 := hi (Nat.not_lt.mp q)
    have hw := wd_get (g := g) (ad := ad) (K := K) (S := S) hi1.1
    rw [cE_i hi1.2 (Or.inl rfl)] at hw
    refine va_copyi (ty := .byte) hx hb hml hown hlink hnat hstat hini hK hW.1 hW.2.1 hS (y - 41) i2 0 0 hw hw2 rfl rfl rfl g1 g2 g3 g4 g5 (fun i hi => fb8 (g6 i hi)) hframes hlocals hdg (fun H1 locs1 hP hD hS1 => ?_)
    rw [e_saiB hi2] at hP hD
    exact kk _ H1 locs1 rfl ⟨hP, hD, WT_sai hW.2.2⟩ hS1
/-- a copy of an array of bytes -/
theorem x_clone {index i : Nat} (hC : Cx g p s m args c cc own Ts nL) (hml : c.maxLocals = ls.size) (hG : GF g A s s.heap)
    (hlink : (Cond.methodLink own index ⟨"[B", "clone", "()Ljava/lang/Object;"⟩).before args s = true) (hsame : (Cond.sameMethod "[B" "java/lang/Object" "clone" "()Ljava/lang/Object;").before args s = true)
    (hnat : (Cond.native ⟨"java/lang/Object", "clone", "()Ljava/lang/Object;"⟩).before args s = true) (hinst : (Cond.instanceMethod ⟨"java/lang/Object", "clone", "()Ljava/lang/Object;"⟩).before args s = true)
    (hsel : (Cond.selects "[B" ⟨"[B", "clone", "()Ljava/lang/Object;"⟩ ⟨"java/lang/Object", "clone", "()Ljava/lang/Object;"⟩).before args s = true)
    (hW : Wb g ad n K S A H) (hS : va_S A s.heap H locs) (hA : ∀ q, s.heap.size ≤ q → A q) (hi : i < n ∧ K i = 11) (ha : a = ad i) {len : Nat} (hin : ln S i ≤ len ∧ ∀ k, k < ln S i → (ai S i k).toInt8.toInt32 = ai S i k)
    (hframes : 1 ≤ R.frames) (hlocals : (rest.map fun v => v.category).sum + 14 ≤ R.locals) (hcells : cells + 1 ≤ R.cells) (hslots : slots + len ≤ R.slots) (hdg : decode cc pc = .ok (.invokevirtual index, 3))
    (kk : ∀ (q : Nat) (ad1 K1 : Nat → Nat) (S1 : St) (H1 : Heap), S1 = sai (nar S n (ln S i)) n (ai S i) → Ag ad K n ad1 K1 (n + 1) → q = ad1 n → K1 n = 11 → Wb g ad1 (n + 1) K1 S1 A H1 → va_S A s.heap H1 locs → W p l e R s m args below meth c H1 locs (cells + 1) (slots + len) Q (F0 m (pc + 3) ls (.ref q :: rest))) : W p l e R s m args below meth c H locs cells slots Q (F0 m pc ls (.ref a :: rest)) := by
  obtain ⟨hx, hb, hmL, hown, hts, hK⟩ := hC
  subst ha
  have hw := wd_get (g := g) (ad := ad) (K := K) (S := S) hi.1
  rw [cE_i hi.2 (Or.inl rfl)] at hw
  have hnm : s.vm.findClass "[B" = some (gcy g 0) := (hK.2 0 (gcy g 0, .byte) rfl).2
  refine va_clone hx hb hml hown hlink hsame hnat hinst hsel hG.2.1 hK hW.1 hW.2.1 hS hA i 0 hw (ty := .byte) rfl hnm (fun k v hv => ?_) hframes hlocals hcells (Nat.le_trans (Nat.add_le_add_left hin.1 _) hslots) hdg (fun q H1 hK1 hP hD hS1 => ?_)
  · rw [vp_cell_i] at hv
    have hk : k < ln S i := by
      have := (Array.getElem?_eq_some_iff.mp hv).1
      rwa [arrV_size] at this
    rw [arrV_read _ _ hk] at hv
    cases hv
    exact fb8 (hin.2 k hk)
  · refine W.widen (k := cells + 1) (n := slots + len) (Nat.le_refl _) (Nat.add_le_add_left hin.1 _) ?_
    have hk : va_up K n 11 n = 11 := by simp [va_up]
    have e : wd g ad n K S ++ [(q, .inl (gcy g (11 - 11), ln S i, .inl (ai S i)))] = wd g (va_up ad n q) (n + 1) (va_up K n 11) (sai (nar S n (ln S i)) n (ai S i)) := by
      refine wd_new ?_ (fun j hj => ?_)
      · rw [cE_i hk (Or.inl rfl)]
        simp [ai, ln, nar, sai, va_up]
      · have hne : j ≠ n := by omega
        refine cE_up hW.2.2 hj (fun _ => rfl) (fun _ => rfl) (fun _ => rfl) ?_ ?_ ?_ ?_
        · simp [ai, nar, sai, va_up, hne]
        · simp [al, nar, sai, va_up, hne]
        · simp [ar, nar, sai, va_up, hne]
        · simp [ln, nar, sai, va_up, hne]
    rw [e] at hP hD
    exact kk q _ _ _ H1 rfl Ag.up (by simp [va_up]) hk ⟨hP, hD, WT_sai (WT_nar hW.2.2)⟩ hS1
theorem x_castB {index i : Nat} (hC : Cx g p s m args c cc own Ts nL) (hW : Wb g ad n K S A H) (hi : i < n ∧ K i = 11) (ha : a = ad i) (hlink : (Cond.classLink own index "[B").before args s = true) (hdg : decode cc pc = .ok (.checkcast index, 3))
    (kk : W p l e R s m args below meth c H locs cells slots Q (F0 m (pc + 3) ls (.ref a :: rest))) : W p l e R s m args below meth c H locs cells slots Q (F0 m pc ls (.ref a :: rest)) := by
  obtain ⟨hx, hb, hmL, hown, hts, hK⟩ := hC
  subst ha
  have hw := wd_get (g := g) (ad := ad) (K := K) (S := S) hi.1
  rw [cE_i hi.2 (Or.inl rfl)] at hw
  exact va_castA hx hb hown hlink hW.1 i hw (show s.vm.findClass "[B" = some (gcy g 0) from (hK.2 0 (gcy g 0, .byte) rfl).2) hdg kk
/-- the digits' tables -/
theorem x_getsO {index : Nat} (hC : Cx g p s m args c cc own Ts nL) (hM : GM g A s s.heap) (hS : va_S A s.heap H locs) (hlink : (Cond.fieldLink own index "java/lang/Integer" "DigitOnes" "[B").before args s = true) (hdg : decode cc pc = .ok (.getstatic index, 3))
    (kk : W p l e R s m args below meth c H locs cells slots Q (F0 m (pc + 3) ls (.ref (gen g 96) :: rest))) : W p l e R s m args below meth c H locs cells slots Q (F0 m pc ls rest) :=
  va_gets hC.1 hC.2.1 hM.2.2.2.2.1 hS hC.2.2.2.1 hlink (fun x h => h) hdg kk
theorem x_getsT {index : Nat} (hC : Cx g p s m args c cc own Ts nL) (hM : GM g A s s.heap) (hS : va_S A s.heap H locs) (hlink : (Cond.fieldLink own index "java/lang/Integer" "DigitTens" "[B").before args s = true) (hdg : decode cc pc = .ok (.getstatic index, 3))
    (kk : W p l e R s m args below meth c H locs cells slots Q (F0 m (pc + 3) ls (.ref (gen g 97) :: rest))) : W p l e R s m args below meth c H locs cells slots Q (F0 m pc ls rest) :=
  va_gets hC.1 hC.2.1 hM.2.2.2.2.2.1 hS hC.2.2.2.1 hlink (fun x h => h) hdg kk
theorem x_baldO {i : Int32} (hC : Cx g p s m args c cc own Ts nL) (hM : GM g A s s.heap) (hS : va_S A s.heap H locs) (hin : vp_in i 100) (hdg : decode cc pc = .ok (.baload, 1))
    (kk : W p l e R s m args below meth c H locs cells slots Q (F0 m (pc + 1) ls (.int (dgO.getD i.toNatClampNeg 0) :: rest))) : W p l e R s m args below meth c H locs cells slots Q (F0 m pc ls (.int i :: .ref (gen g 96) :: rest)) :=
  va_tb hC.1 hC.2.1 hM.2.2.2.2.2.2.1 hS hin rfl hdg kk
theorem x_baldT {i : Int32} (hC : Cx g p s m args c cc own Ts nL) (hM : GM g A s s.heap) (hS : va_S A s.heap H locs) (hin : vp_in i 100) (hdg : decode cc pc = .ok (.baload, 1))
    (kk : W p l e R s m args below meth c H locs cells slots Q (F0 m (pc + 1) ls (.int (dgT.getD i.toNatClampNeg 0) :: rest))) : W p l e R s m args below meth c H locs cells slots Q (F0 m pc ls (.int i :: .ref (gen g 97) :: rest)) :=
  va_tb hC.1 hC.2.1 hM.2.2.2.2.2.2.2.1 hS hin rfl hdg kk
/-- the script -/
theorem x_xlen {X : XS} (hC : Cx g p s m args c cc own Ts nL) (hM : GM g A s s.heap) (hS : va_S A s.heap H locs) (hX : X = gX g) (hdg : decode cc pc = .ok (.arraylength, 1))
    (kk : W p l e R s m args below meth c H locs cells slots Q (F0 m (pc + 1) ls (.int (Int32.ofNat X.2) :: rest))) : W p l e R s m args below meth c H locs cells slots Q (F0 m pc ls (.ref (gen g 98) :: rest)) := by
  subst hX
  exact va_tlen hC.1 hC.2.1 hM.2.2.2.2.2.2.2.2 hS rfl hdg kk
theorem x_xld {X : XS} {i : Int32} (hC : Cx g p s m args c cc own Ts nL) (hM : GM g A s s.heap) (hS : va_S A s.heap H locs) (hX : X = gX g) (hin : vp_in i X.2) (hdg : decode cc pc = .ok (.iaload, 1))
    (kk : W p l e R s m args below meth c H locs cells slots Q (F0 m (pc + 1) ls (.int (X.1 i.toNatClampNeg) :: rest))) : W p l e R s m args below meth c H locs cells slots Q (F0 m pc ls (.int i :: .ref (gen g 98) :: rest)) := by
  subst hX
  exact va_ti hC.1 hC.2.1 hM.2.2.2.2.2.2.2.2 hS hin rfl hdg kk
theorem x_recvS {x : Nat} (hC : Cx g p s m args c cc own Ts nL) (hM : GM g A s s.heap) (hW : Wb g ad n K S A H) (hS : va_S A s.heap H locs) (hi : tS 18 n K x) : ∃ cell : Cell, H[sad g ad x]? = some cell ∧ cell.vm.isStatics = false ∧ s.vm.findClass "java/lang/String" = some cell.cls := by
  unfold sad
  by_cases q : x < 41
  · rw [if_pos q]
    exact x_recvM hM q hS
  · rw [if_neg q]
    have hi1 := hi (Nat.not_lt.mp q)
    have hw := wd_get (g := g) (ad := ad) (K := K) (S := S) hi1.1
    rw [cE_obj hi1.2 (by decide)] at hw
    exact va_recv (q := (RJ0, TJ0, 4)) hC.2.2.2.2.2 hW.1 rfl hw
theorem x_callVs {index y bytes maxL ret ws rm As na i0 o S1 st0} {P : Prop} (hC : Cx g p s m args c cc own Ts nL) (hls : ls.size = nL) (hW : Wb g ad n K S A H) (hS : va_S A s.heap H locs) (hG : GF g A s s.heap) (hA : ∀ q, s.heap.size ≤ q → A q) (hi : tS 18 n K i0) (ha : a = sad g ad i0)
    (hM : Met l y ws rm (va_Pc (.ref a :: As) (PB g ad n K S H.size)) (QR o (QB g ad n K S1 (dA ad n H.size) P) (dA ad n H.size)) 0 0 (dA ad n H.size))
    (cw : CallW R s args own "java/lang/String" index y bytes maxL ret ws rm 0 0 na) (hn : As.length = na) (hst : st0 = As.reverse ++ .ref a :: rest) (hR : (rest.map fun v => v.category).sum ≤ 8) (hdg : decode cc pc = .ok (.invokevirtual index, 3)) (hf : cells ≤ R.cells ∧ slots ≤ R.slots)
    (kk : ∀ (H1 : Heap) (locs1 : List Loc), P → Wb g ad n K S1 A H1 → va_S A s.heap H1 locs1 → W p l e R s m args below meth c H1 locs1 cells slots Q (F0 m (pc + 3) ls (o.toList ++ rest))) : W p l e R s m args below meth c H locs cells slots Q (F0 m pc ls st0) := by
  have hCC := hC
  subst ha
  obtain ⟨hx, hb, hml, hown, hts, hK⟩ := hC
  exact x_back (va_runV (rest := rest) (As := As) ⟨hx, hb, hml, hown, hts⟩ hM cw ⟨x_blind, x_recvS hCC hG.2.2.2.2 hW hS hi, fun U hU hWm => ⟨rfl, x_pre hCC hW hS hG hA hU hWm⟩⟩ rfl hn hls hst (lv_room hR) hdg hf) hW hS hA kk
end XS
theorem sw_out5 {x : Int32} (h0 : ¬ x = 0) (h1 : ¬ x = 1) (h2 : ¬ x = 2) (h3 : ¬ x = 3) (h4 : ¬ x = 4) : x.toInt < 0 ∨ 4 < x.toInt := by
  have a0 := lv_neT (a := 0) h0 (by decide)
  have a1 := lv_neT (a := 1) h1 (by decide)
  have a2 := lv_neT (a := 2) h2 (by decide)
  have a3 := lv_neT (a := 3) h3 (by decide)
  have a4 := lv_neT (a := 4) h4 (by decide)
  omega
theorem fB {v : Int32} (h : v = 0 ∨ v = 1) : fits .byte (.int v) = true := by rcases h with rfl | rfl <;> rfl
