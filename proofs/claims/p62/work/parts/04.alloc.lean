/-! new objects and arrays: the address map grows -/
theorem re_up {ad : Nat → Nat} {n q : Nat} {o : Option Nat} (h : ∀ j, o = some j → j < n) : va_re (va_up ad n q) o = va_re ad o := by
  cases o with
  | none => rfl
  | some j =>
    have := h j rfl
    show va_rf (some (va_up ad n q j)) = va_rf (some (ad j))
    unfold va_up
    rw [if_neg (by omega)]
theorem cE_up {g : GP} {ad K : Nat → Nat} {n q k j : Nat} {S S' : St} (hT : WT n K S) (hj : j < n) (h1 : ∀ f, si S' f j = si S f j) (h2 : ∀ f, sr S' f j = sr S f j) (h3 : ∀ f, sl S' f j = sl S f j) (h4 : ai S' j = ai S j) (h5 : al S' j = al S j) (h6 : ar S' j = ar S j) (h7 : ln S' j = ln S j) : cE g (va_up ad n q) (va_up K n k) S' j = cE g ad K S j := by
  have hK : va_up K n k j = K j := by unfold va_up; rw [if_neg (by omega)]
  have ef : ob (K j) → fvs g (va_up ad n q) S' (K j) j = fvs g ad S (K j) j := by
    intro hc
    apply List.ext_getElem?
    intro i
    simp only [fvs, List.getElem?_mapIdx]
    cases hq : (tg (K j))[i]? with
    | none => rfl
    | some t =>
      simp only [Option.map_some]
      congr 1
      unfold fv
      match t, hq with
      | 0, _ => simp only [h1]
      | 1, hq =>
        simp only [h2]
        refine re_up (fun j' hj' => ?_)
        refine (hT.1 (100 * K j + i) j j' (fun h => ?_) hj').1
        have hi : i < 100 := by
          have := (List.getElem?_eq_some_iff.mp hq).1
          have hl : ∀ c, c < 19 → (tg c).length ≤ 30 := by decide
          have := hl (K j) (by rcases hc with h | h <;> omega)
          omega
        have h5 : K j = 5 := by rcases hc with hc | hc <;> omega
        have h8 : i = 8 := by omega
        rw [h5, h8] at hq
        exact absurd hq (by decide)
      | 2, _ => simp only [h3]
      | t + 3, _ => simp only [h2]
  have er : (fun x => (ar S j x).map (va_up ad n q)) = (fun x => (ar S j x).map ad) := by
    funext x
    cases hq : ar S j x with
    | none => rfl
    | some j' =>
      have := (hT.2 j x j' hq).1
      show some (va_up ad n q j') = some (ad j')
      unfold va_up
      rw [if_neg (by omega)]
  unfold cE
  rw [hK, h4, h5, h6, h7, er]
  by_cases hc : ob (K j)
  · simp only [if_pos hc, ef hc]
  · simp only [if_neg hc]
theorem wd_new {g : GP} {ad K : Nat → Nat} {n q k : Nat} {S S' : St} {e : va_E} (he : cE g (va_up ad n q) (va_up K n k) S' n = e) (ho : ∀ j, j < n → cE g (va_up ad n q) (va_up K n k) S' j = cE g ad K S j) : wd g ad n K S ++ [(q, e)] = wd g (va_up ad n q) (n + 1) (va_up K n k) S' := by
  apply List.ext_getElem?
  intro i
  by_cases h : i < n
  · rw [List.getElem?_append_left (by rw [wd_len]; exact h), wd_get h, wd_get (by omega), ho i h]
    unfold va_up
    rw [if_neg (by omega)]
  · rw [List.getElem?_append_right (by rw [wd_len]; omega), wd_len]
    by_cases h2 : i = n
    · subst h2
      rw [wd_get (by omega), he]
      simp [va_up]
    · rw [List.getElem?_eq_none (by simp; omega), List.getElem?_eq_none (by rw [wd_len]; omega)]
theorem WT_nob {n : Nat} {K : Nat → Nat} {S : St} {k : Nat} (h : WT n K S) : WT (n + 1) (va_up K n k) (nob S n) := by
  have hK : ∀ j, j < n → va_up K n k j = K j := fun j hj => by unfold va_up; rw [if_neg (by omega)]
  refine ⟨fun f i j hf hs => ?_, fun i x j hs => ?_⟩
  · have hs' : (if i = n then none else sr S f i) = some j := hs
    by_cases hi : i = n
    · rw [if_pos hi] at hs'; cases hs'
    · rw [if_neg hi] at hs'
      obtain ⟨a, b⟩ := h.1 f i j hf hs'
      exact ⟨by omega, by rw [hK j a]; exact b⟩
  · have hs' : va_up (ar S) n (fun _ => none) i x = some j := hs
    unfold va_up at hs'
    by_cases hi : i = n
    · rw [if_pos hi] at hs'; cases hs'
    · rw [if_neg hi] at hs'
      obtain ⟨a, b⟩ := h.2 i x j hs'
      refine ⟨by omega, ?_⟩
      rw [hK j a, b]
      unfold va_up
      rw [if_neg hi]
theorem WT_nar {n : Nat} {K : Nat → Nat} {S : St} {k len : Nat} (h : WT n K S) : WT (n + 1) (va_up K n k) (nar S n len) := by
  have hK : ∀ j, j < n → va_up K n k j = K j := fun j hj => by unfold va_up; rw [if_neg (by omega)]
  refine ⟨fun f i j hf hs => ?_, fun i x j hs => ?_⟩
  · obtain ⟨a, b⟩ := h.1 f i j hf hs
    exact ⟨by omega, by rw [hK j a]; exact b⟩
  · have hs' : va_up (ar S) n (fun _ => none) i x = some j := hs
    unfold va_up at hs'
    by_cases hi : i = n
    · rw [if_pos hi] at hs'; cases hs'
    · rw [if_neg hi] at hs'
      obtain ⟨a, b⟩ := h.2 i x j hs'
      refine ⟨by omega, ?_⟩
      rw [hK j a, b]
      unfold va_up
      rw [if_neg hi]
/-- an address map and kinds that agree with older ones below n -/
def Ag (ad K : Nat → Nat) (n : Nat) (ad' K' : Nat → Nat) (n' : Nat) : Prop := n ≤ n' ∧ ∀ i, i < n → ad' i = ad i ∧ K' i = K i
theorem Ag.rf {ad K : Nat → Nat} {n : Nat} : Ag ad K n ad K n := ⟨Nat.le_refl _, fun _ _ => ⟨rfl, rfl⟩⟩
theorem Ag.tr {ad K ad' K' ad'' K'' : Nat → Nat} {n n' n'' : Nat} (h : Ag ad K n ad' K' n') (h' : Ag ad' K' n' ad'' K'' n'') : Ag ad K n ad'' K'' n'' :=
  ⟨Nat.le_trans h.1 h'.1, fun i hi => ⟨((h'.2 i (Nat.lt_of_lt_of_le hi h.1)).1).trans (h.2 i hi).1, ((h'.2 i (Nat.lt_of_lt_of_le hi h.1)).2).trans (h.2 i hi).2⟩⟩
theorem Ag.up {ad K : Nat → Nat} {n q k : Nat} : Ag ad K n (va_up ad n q) (va_up K n k) (n + 1) :=
  ⟨Nat.le_succ n, fun i hi => by unfold va_up; rw [if_neg (by omega), if_neg (by omega)]; exact ⟨rfl, rfl⟩⟩
theorem Ag.t {ad K ad' K' : Nat → Nat} {n n' i k : Nat} (h : Ag ad K n ad' K' n') (ht : i < n ∧ K i = k) : i < n' ∧ K' i = k := ⟨Nat.lt_of_lt_of_le ht.1 h.1, (h.2 i ht.1).2.trans ht.2⟩
theorem Ag.e {ad K ad' K' : Nat → Nat} {n n' i k a : Nat} (h : Ag ad K n ad' K' n') (ht : i < n ∧ K i = k) (ha : a = ad i) : a = ad' i := ha.trans (h.2 i ht.1).1.symm
section XN
variable {p : Program} {l : Launch} {e : Env} {R : Room} {s : State} {m : MethodId} {args : Array Value} {below : List Frame} {meth : Method} {c : Code} {H : Heap} {locs : List Loc} {cells slots : Nat} {Q : State → Prop}
variable {cc : ByteArray} {pc : Nat} {ls : Array Slot} {rest : List Value} {g : GP} {ad : Nat → Nat} {n : Nat} {K : Nat → Nat} {S : St} {A : Nat → Prop} {own : String} {Ts : List Cond} {nL : Nat}
theorem x_new {C : String} {T : u_T} {N ci index : Nat} {ty : Nat → FieldType} (hC : Cx g p s m args c cc own Ts nL) (hin : ∀ w ∈ u_ws C T N, w ∈ Ts) (hty : ∀ k, k < N → parseFieldDescriptor (T k).2.2.1 = some (ty k)) (hW : Wb g ad n K S A H) (hS : va_S A s.heap H locs) (hA : ∀ q, s.heap.size ≤ q → A q) (hc : vwCl[ci]? = some (C, T, N) ∧ ob ci ∧ (tg ci).length = N) (hd : ∀ k, k < N → ∃ t, (tg ci)[k]? = some t ∧ defaultValue (ty k) = (match t with | 0 => .int 0 | 2 => .long 0 | _ => .null)) (hcl : (Cond.classLink own index C).before args s = true) (hinst : (Cond.instantiable C N).before args s = true) (hini : (Cond.initialized C).before args s = true) (hcells : cells + 1 ≤ R.cells) (hslots : slots + N ≤ R.slots) (hdg : decode cc pc = .ok (.new index, 3))
    (kk : ∀ (q : Nat) (ad1 K1 : Nat → Nat) (S1 : St) (H1 : Heap), S1 = nob S n → Ag ad K n ad1 K1 (n + 1) → q = ad1 n → K1 n = ci → Wb g ad1 (n + 1) K1 S1 A H1 → va_S A s.heap H1 locs → W p l e R s m args below meth c H1 locs (cells + 1) (slots + N) Q (F0 m (pc + 3) ls (.ref q :: rest))) : W p l e R s m args below meth c H locs cells slots Q (F0 m pc ls rest) := by
  obtain ⟨hx, hb, -, hown, hts, hK⟩ := hC
  refine va_new (D := gD g) (ci := ci) (fs := fvs g ad (nob S n) ci n) hx hb hts hin ty hty hown hcl hinst hini hK hW.1 hW.2.1 hS hA hc.1 (fun j hj => ?_) hcells hslots hdg (fun q H1 hP hD hS1 => ?_)
  · obtain ⟨t, h1, h2⟩ := hd j hj
    rw [h2]
    unfold vp_V
    rw [List.getD_eq_getElem?_getD, fvs_get h1]
    unfold fv
    match t with
    | 0 => simp [si, nob]
    | 1 => simp [sr, nob, va_re, va_rf]
    | 2 => simp [sl, nob]
    | t + 3 => simp [sr, nob, va_re, va_rf]
  · have hK1 : va_up K n ci n = ci := by simp [va_up]
    have e : wd g ad n K S ++ [(q, .inr (ci, fvs g ad (nob S n) ci n))] = wd g (va_up ad n q) (n + 1) (va_up K n ci) (nob S n) := by
      refine wd_new ?_ (fun j hj => cE_up hW.2.2 hj (fun f => ?_) (fun f => ?_) (fun f => ?_) rfl rfl ?_ rfl)
      · rw [cE_obj hK1 hc.2.1]
        congr 2
        apply List.ext_getElem?
        intro i
        simp only [fvs, List.getElem?_mapIdx]
        cases hq : (tg ci)[i]? with
        | none => rfl
        | some t =>
          simp only [Option.map_some]
          congr 1
          unfold fv
          match t with
          | 0 => rfl
          | 1 => simp [sr, nob, va_re]
          | 2 => rfl
          | t + 3 => rfl
      · simp [si, nob]; omega
      · simp [sr, nob]; omega
      · simp [sl, nob]; omega
      · have : j ≠ n := by omega
        simp [ar, nob, va_up, this]
    rw [e] at hP hD
    exact kk q _ _ _ H1 rfl Ag.up (by simp [va_up]) hK1 ⟨hP, hD, WT_nob hW.2.2⟩ hS1
theorem cA_eq {D : va_G} {cl : List vw_C} {tys : List (ClassId × FieldType)} {cA cB : ClassId} {ty : FieldType} {k : Nat} (hK : va_K D cl (tys ++ [(cA, ty)]) s) (hk : tys[k]? = some (cB, ty)) : cA = cB := by
  have h1 := (hK.2 tys.length (cA, ty) (by simp)).2
  have hl := (List.getElem?_eq_some_iff.mp hk).1
  have h2 := (hK.2 k (cB, ty) (by rw [List.getElem?_append_left hl]; exact hk)).2
  cases ty with
  | object C =>
    obtain ⟨_, _, _, _, _, a⟩ := h1
    obtain ⟨_, _, _, _, _, b⟩ := h2
    exact Option.some.inj (a.symm.trans b)
  | _ =>
    have a : s.vm.findClass _ = some cA := h1
    have b : s.vm.findClass _ = some cB := h2
    exact Option.some.inj (a.symm.trans b)
theorem e_nar {k len q : Nat} {e : va_E} (hW : WT n K S) (he : cE g (va_up ad n q) (va_up K n k) (nar S n len) n = e) : wd g ad n K S ++ [(q, e)] = wd g (va_up ad n q) (n + 1) (va_up K n k) (nar S n len) := by
  refine wd_new he (fun j hj => ?_)
  have hne : j ≠ n := by omega
  refine cE_up hW hj (fun _ => rfl) (fun _ => rfl) (fun _ => rfl) ?_ ?_ ?_ ?_
  · simp [ai, nar, va_up, hne]
  · simp [al, nar, va_up, hne]
  · simp [ar, nar, va_up, hne]
  · simp [ln, nar, va_up, hne]
theorem x_newaI {v : Int32} {len : Nat} (hC : Cx g p s m args c cc own Ts nL) (harr : (Cond.arrayClass .int).before args s = true) (hW : Wb g ad n K S A H) (hS : va_S A s.heap H locs) (hA : ∀ q, s.heap.size ≤ q → A q) (hv : ¬ v < 0) (hlen : v.toNatClampNeg = len) (hb4 : len ≤ 100000000) (hcells : cells + 1 ≤ R.cells) (hslots : slots + len ≤ R.slots) (hdg : decode cc pc = .ok (.newarray .int, 2))
    (kk : ∀ (q : Nat) (ad1 K1 : Nat → Nat) (S1 : St) (H1 : Heap), S1 = nar S n len → Ag ad K n ad1 K1 (n + 1) → q = ad1 n → K1 n = 12 → Wb g ad1 (n + 1) K1 S1 A H1 → va_S A s.heap H1 locs → W p l e R s m args below meth c H1 locs (cells + 1) (slots + len) Q (F0 m (pc + 2) ls (.ref q :: rest))) : W p l e R s m args below meth c H locs cells slots Q (F0 m pc ls (.int v :: rest)) := by
  obtain ⟨hx, hb, -, hown, hts, hK⟩ := hC
  refine va_newa (atype := .int) (D := gD g) (ty := .int) (a0 := (len, .inl (fun _ => 0))) hx hb harr rfl hK hW.1 hW.2.1 hS hA (fun _ => rfl) hv hlen (by show len * 4 ≤ _; omega) hcells hslots hdg (fun q cA H1 hK1 hP hD hS1 => ?_)
  have hcA := cA_eq (k := 1) hK1 rfl
  subst hcA
  have hk : va_up K n 12 n = 12 := by simp [va_up]
  rw [e_nar (k := 12) (len := len) hW.2.2 (by rw [cE_i hk (Or.inr rfl)]; simp [ai, ln, nar, va_up])] at hP hD
  exact kk q _ _ _ H1 rfl Ag.up (by simp [va_up]) hk ⟨hP, hD, WT_nar hW.2.2⟩ hS1
theorem x_newaB {v : Int32} {len : Nat} (hC : Cx g p s m args c cc own Ts nL) (harr : (Cond.arrayClass .byte).before args s = true) (hW : Wb g ad n K S A H) (hS : va_S A s.heap H locs) (hA : ∀ q, s.heap.size ≤ q → A q) (hv : ¬ v < 0) (hlen : v.toNatClampNeg = len) (hb4 : len ≤ 100000000) (hcells : cells + 1 ≤ R.cells) (hslots : slots + len ≤ R.slots) (hdg : decode cc pc = .ok (.newarray .byte, 2))
    (kk : ∀ (q : Nat) (ad1 K1 : Nat → Nat) (S1 : St) (H1 : Heap), S1 = nar S n len → Ag ad K n ad1 K1 (n + 1) → q = ad1 n → K1 n = 11 → Wb g ad1 (n + 1) K1 S1 A H1 → va_S A s.heap H1 locs → W p l e R s m args below meth c H1 locs (cells + 1) (slots + len) Q (F0 m (pc + 2) ls (.ref q :: rest))) : W p l e R s m args below meth c H locs cells slots Q (F0 m pc ls (.int v :: rest)) := by
  obtain ⟨hx, hb, -, hown, hts, hK⟩ := hC
  refine va_newa (atype := .byte) (D := gD g) (ty := .byte) (a0 := (len, .inl (fun _ => 0))) hx hb harr rfl hK hW.1 hW.2.1 hS hA (fun _ => rfl) hv hlen (by show len * 1 ≤ _; omega) hcells hslots hdg (fun q cA H1 hK1 hP hD hS1 => ?_)
  have hcA := cA_eq (k := 0) hK1 rfl
  subst hcA
  have hk : va_up K n 11 n = 11 := by simp [va_up]
  rw [e_nar (k := 11) (len := len) hW.2.2 (by rw [cE_i hk (Or.inl rfl)]; simp [ai, ln, nar, va_up])] at hP hD
  exact kk q _ _ _ H1 rfl Ag.up (by simp [va_up]) hk ⟨hP, hD, WT_nar hW.2.2⟩ hS1
theorem x_newaJ {v : Int32} {len : Nat} (hC : Cx g p s m args c cc own Ts nL) (harr : (Cond.arrayClass .long).before args s = true) (hW : Wb g ad n K S A H) (hS : va_S A s.heap H locs) (hA : ∀ q, s.heap.size ≤ q → A q) (hv : ¬ v < 0) (hlen : v.toNatClampNeg = len) (hb4 : len ≤ 60000000) (hcells : cells + 1 ≤ R.cells) (hslots : slots + len ≤ R.slots) (hdg : decode cc pc = .ok (.newarray .long, 2))
    (kk : ∀ (q : Nat) (ad1 K1 : Nat → Nat) (S1 : St) (H1 : Heap), S1 = nar S n len → Ag ad K n ad1 K1 (n + 1) → q = ad1 n → K1 n = 13 → Wb g ad1 (n + 1) K1 S1 A H1 → va_S A s.heap H1 locs → W p l e R s m args below meth c H1 locs (cells + 1) (slots + len) Q (F0 m (pc + 2) ls (.ref q :: rest))) : W p l e R s m args below meth c H locs cells slots Q (F0 m pc ls (.int v :: rest)) := by
  obtain ⟨hx, hb, -, hown, hts, hK⟩ := hC
  refine va_newa (atype := .long) (D := gD g) (ty := .long) (a0 := (len, .inr (.inl (fun _ => 0)))) hx hb harr rfl hK hW.1 hW.2.1 hS hA (fun _ => rfl) hv hlen (by show len * 8 ≤ _; omega) hcells hslots hdg (fun q cA H1 hK1 hP hD hS1 => ?_)
  have hcA := cA_eq (k := 2) hK1 rfl
  subst hcA
  have hk : va_up K n 13 n = 13 := by simp [va_up]
  rw [e_nar (k := 13) (len := len) hW.2.2 (by rw [cE_l hk]; simp [al, ln, nar, va_up])] at hP hD
  exact kk q _ _ _ H1 rfl Ag.up (by simp [va_up]) hk ⟨hP, hD, WT_nar hW.2.2⟩ hS1
theorem x_newq {v : Int32} {len kd index t0 : Nat} {C : String} (hC : Cx g p s m args c cc own Ts nL) (hclink : (Cond.classLink own index C).before args s = true) (hover : va_AO C s) (hkd : (kd = 14 ∨ kd = 15 ∨ kd = 16) ∧ (gT g)[t0]? = some (gcy g (kd - 11), .object C)) (hW : Wb g ad n K S A H) (hS : va_S A s.heap H locs) (hA : ∀ q, s.heap.size ≤ q → A q) (hv : ¬ v < 0) (hlen : v.toNatClampNeg = len) (hb4 : len ≤ 100000000) (hcells : cells + 1 ≤ R.cells) (hslots : slots + len ≤ R.slots) (hdg : decode cc pc = .ok (.anewarray index, 3))
    (kk : ∀ (q : Nat) (ad1 K1 : Nat → Nat) (S1 : St) (H1 : Heap), S1 = nar S n len → Ag ad K n ad1 K1 (n + 1) → q = ad1 n → K1 n = kd → Wb g ad1 (n + 1) K1 S1 A H1 → va_S A s.heap H1 locs → W p l e R s m args below meth c H1 locs (cells + 1) (slots + len) Q (F0 m (pc + 3) ls (.ref q :: rest))) : W p l e R s m args below meth c H locs cells slots Q (F0 m pc ls (.int v :: rest)) := by
  obtain ⟨hx, hb, -, hown, hts, hK⟩ := hC
  refine va_newq (D := gD g) hx hb hown hclink hover hK hW.1 hW.2.1 hS hA hv hlen (by omega) hcells hslots hdg (fun q cA H1 hK1 hP hD hS1 => ?_)
  have hcA := cA_eq (k := t0) hK1 hkd.2
  subst hcA
  have hk : va_up K n kd n = kd := by simp [va_up]
  rw [e_nar (k := kd) (len := len) hW.2.2 (by rw [cE_r hk hkd.1]; simp [ar, ln, nar, va_up])] at hP hD
  exact kk q _ _ _ H1 rfl Ag.up (by simp [va_up]) hk ⟨hP, hD, WT_nar hW.2.2⟩ hS1
end XN
