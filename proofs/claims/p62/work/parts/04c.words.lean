/-! constants of the enum, and texts -/
theorem so2 {α β : Type} {a b : α} {c d : β} (h : some (a, c) = some (b, d)) : a = b ∧ c = d := Prod.mk.inj (Option.some.inj h)
theorem so3 {α β γ : Type} {a b : α} {c d : β} {e f : γ} (h : some (a, c, e) = some (b, d, f)) : a = b ∧ c = d ∧ e = f := ⟨(Prod.mk.inj (Option.some.inj h)).1, Prod.mk.inj (Prod.mk.inj (Option.some.inj h)).2⟩
section XE
variable {p : Program} {l : Launch} {e : Env} {R : Room} {s : State} {m : MethodId} {args : Array Value} {below : List Frame} {meth : Method} {c : Code} {H : Heap} {locs : List Loc} {cells slots : Nat} {Q : State → Prop}
variable {cc : ByteArray} {pc : Nat} {ls : Array Slot} {rest : List Value} {g : GP} {ad : Nat → Nat} {n : Nat} {K : Nat → Nat} {S : St} {A : Nat → Prop} {own : String} {Ts : List Cond} {nL : Nat} {a : Nat}
/-- the one of fifteen that a reference names -/
def ok15 (o : Option Nat) : Prop := o.getD 0 < 15
theorem gE_inj (hE : GE g A s s.heap) {i j : Nat} (hi : i < 15) (hj : j < 15) (h : gen g i = gen g j) : i = j := hE.1.2 i j hi hj h
theorem x_acmpE_ne (hC : Cx g p s m args c cc own Ts nL) (hE : GE g A s s.heap) {o : Option Nat} {j : Nat} (ho : o.getD 0 < 15) (hj : j < 15) {off : Int} {tgt : Nat} (hdg : decode cc pc = .ok (.if_acmp .ne off, 3)) (ht : (pc : Int) + off = (tgt : Int))
    (kt : ¬ o = some j → W p l e R s m args below meth c H locs cells slots Q (F0 m tgt ls rest)) (kf : o = some j → W p l e R s m args below meth c H locs cells slots Q (F0 m (pc + 3) ls rest)) : W p l e R s m args below meth c H locs cells slots Q (F0 m pc ls (.ref (gen g j) :: va_re (gen g) o :: rest)) := by
  have key : o.map (gen g) = some (gen g j) ↔ o = some j := by
    cases o with
    | none => exact ⟨fun h => (by cases h), fun h => (by cases h)⟩
    | some i => exact ⟨fun h => congrArg some (gE_inj hE ho hj (Option.some.inj h)), fun h => (by rw [h]; rfl)⟩
  exact lv_acmp_ne (rx := o.map (gen g)) (ry := some (gen g j)) hC.1 hC.2.1 hdg ht (fun h => kt (fun q => h (key.mpr q))) (fun h => kf (key.mp h))
theorem x_acmpE_eq (hC : Cx g p s m args c cc own Ts nL) (hE : GE g A s s.heap) {o : Option Nat} {j : Nat} (ho : o.getD 0 < 15) (hj : j < 15) {off : Int} {tgt : Nat} (hdg : decode cc pc = .ok (.if_acmp .eq off, 3)) (ht : (pc : Int) + off = (tgt : Int))
    (kt : o = some j → W p l e R s m args below meth c H locs cells slots Q (F0 m tgt ls rest)) (kf : ¬ o = some j → W p l e R s m args below meth c H locs cells slots Q (F0 m (pc + 3) ls rest)) : W p l e R s m args below meth c H locs cells slots Q (F0 m pc ls (.ref (gen g j) :: va_re (gen g) o :: rest)) := by
  have key : o.map (gen g) = some (gen g j) ↔ o = some j := by
    cases o with
    | none => exact ⟨fun h => (by cases h), fun h => (by cases h)⟩
    | some i => exact ⟨fun h => congrArg some (gE_inj hE ho hj (Option.some.inj h)), fun h => (by rw [h]; rfl)⟩
  exact lv_acmp_eq (rx := o.map (gen g)) (ry := some (gen g j)) hC.1 hC.2.1 hdg ht (fun h => kt (key.mp h)) (fun h => kf (fun q => h (key.mpr q)))
theorem x_ifnonnullE (hC : Cx g p s m args c cc own Ts nL) {o : Option Nat} {off : Int} {tgt : Nat} (hdg : decode cc pc = .ok (.ifnonnull off, 3)) (ht : (pc : Int) + off = (tgt : Int))
    (kt : ¬ o = none → W p l e R s m args below meth c H locs cells slots Q (F0 m tgt ls rest)) (kf : o = none → W p l e R s m args below meth c H locs cells slots Q (F0 m (pc + 3) ls rest)) : W p l e R s m args below meth c H locs cells slots Q (F0 m pc ls (va_re (gen g) o :: rest)) := by
  cases o with
  | none => exact lv_ifnonnullN hC.1 hC.2.1 hdg (kf rfl)
  | some i => exact lv_ifnonnull (tgt := tgt) hC.1 hC.2.1 hdg ht (kt (fun h => by cases h))
theorem x_getsE (j : Nat) {nm : String} {index : Nat} (hC : Cx g p s m args c cc own Ts nL) (hE : GE g A s s.heap) (hS : va_S A s.heap H locs) (hj : j < 15 ∧ kwN.getD j "" = nm) (hlink : (Cond.fieldLink own index "MailSpool$Keyword" nm "LMailSpool$Keyword;").before args s = true) (hdg : decode cc pc = .ok (.getstatic index, 3))
    (kk : W p l e R s m args below meth c H locs cells slots Q (F0 m (pc + 3) ls (.ref (gen g j) :: rest))) : W p l e R s m args below meth c H locs cells slots Q (F0 m pc ls rest) := by
  obtain ⟨hx, hb, -, hown, -, -⟩ := hC
  exact va_gets hx hb (hj.2 ▸ (hE.1.1 j hj.1).1) hS hown hlink (fun x h => h) hdg kk
theorem x_getW {index j : Nat} (hC : Cx g p s m args c cc own Ts nL) (hE : GE g A s s.heap) (hS : va_S A s.heap H locs) (hj : j < 15) (hlink : (Cond.fieldLinkNest own index "MailSpool$Keyword" "word" "J" "MailSpool").before args s = true) (hdg : decode cc pc = .ok (.getfield index, 3))
    (kk : W p l e R s m args below meth c H locs cells slots Q (F0 m (pc + 3) ls (.long (kwW.getD j 0) :: rest))) : W p l e R s m args below meth c H locs cells slots Q (F0 m pc ls (.ref (gen g j) :: rest)) := by
  obtain ⟨hx, hb, -, hown, -, -⟩ := hC
  obtain ⟨cf, kf, fi, f, cell, h1, h2, h3, h4, h5, h6⟩ := (hE.2.1 j hj).kept hS.2.1
  exact va_Wgetf hx hb hown hlink h1 h2 h3 h4 (v := .long (kwW.getD j 0)) h5 rfl rfl hdg kk
theorem x_getsK {index : Nat} (hC : Cx g p s m args c cc own Ts nL) (hE : GE g A s s.heap) (hS : va_S A s.heap H locs) (hlink : (Cond.fieldLinkNest own index "MailSpool" "KEYWORDS" "[LMailSpool$Keyword;" "MailSpool").before args s = true) (hdg : decode cc pc = .ok (.getstatic index, 3))
    (kk : W p l e R s m args below meth c H locs cells slots Q (F0 m (pc + 3) ls (.ref (gen g 15) :: rest))) : W p l e R s m args below meth c H locs cells slots Q (F0 m pc ls rest) := by
  obtain ⟨hx, hb, -, hown, -, -⟩ := hC
  exact va_getsN hx hb hE.2.2.1 hS hown hlink (fun x h => h) hdg kk
theorem x_lenK (hC : Cx g p s m args c cc own Ts nL) (hE : GE g A s s.heap) (hS : va_S A s.heap H locs) (hdg : decode cc pc = .ok (.arraylength, 1))
    (kk : W p l e R s m args below meth c H locs cells slots Q (F0 m (pc + 1) ls (.int 15 :: rest))) : W p l e R s m args below meth c H locs cells slots Q (F0 m pc ls (.ref (gen g 15) :: rest)) :=
  va_tlen hC.1 hC.2.1 hE.2.2.2 hS rfl hdg kk
theorem x_aaldK {i : Int32} (hC : Cx g p s m args c cc own Ts nL) (hE : GE g A s s.heap) (hS : va_S A s.heap H locs) (hin : vp_in i 15) (hdg : decode cc pc = .ok (.aaload, 1))
    (kk : W p l e R s m args below meth c H locs cells slots Q (F0 m (pc + 1) ls (.ref (gen g i.toNatClampNeg) :: rest))) : W p l e R s m args below meth c H locs cells slots Q (F0 m pc ls (.int i :: .ref (gen g 15) :: rest)) :=
  vb_tq hC.1 hC.2.1 hE.2.2.2 hS hin rfl hdg kk
theorem in15 {i : Int32} (h : vp_in i 15) : i.toNatClampNeg < 15 := by
  exact Nat.not_le.mp fun q => h (Or.inr q)
theorem x_gete (f : Nat) {C Cr : String} {T : u_T} {N ci index i : Nat} (k : Nat) (hC : Cx g p s m args c cc own Ts nL) (hin : ∀ w ∈ u_ws C T N, w ∈ Ts) (hW : Wb g ad n K S A H) (hi : i < n ∧ K i = ci) (ha : a = ad i) (hc : vwCl[ci]? = some (C, T, N)) (hk : k < N ∧ ob ci ∧ 100 * ci + k = f ∧ (tg ci)[k]? = some 3) (hT1 : (T k).1 = Cr) (hlink : (Cond.fieldLink own index Cr (T k).2.1 (T k).2.2.1).before args s = true) (hdg : decode cc pc = .ok (.getfield index, 3))
    (kk : W p l e R s m args below meth c H locs cells slots Q (F0 m (pc + 3) ls (va_re (gen g) (sr S f i) :: rest))) : W p l e R s m args below meth c H locs cells slots Q (F0 m pc ls (.ref a :: rest)) := by
  obtain ⟨hx, hb, -, hown, hts, hK⟩ := hC
  subst ha
  have hw := wd_get (g := g) (ad := ad) (K := K) (S := S) hi.1
  rw [cE_obj hi.2 hk.2.1] at hw
  refine va_get (D := gD g) (ci := ci) (v := va_re (gen g) (sr S f i)) hx hb hts hin hown hK hW.1 i hw hc k hk.1 hlink (fun x h => by rw [hT1] at h; exact h) ?_ hdg kk
  rw [fvs_get hk.2.2.2]
  show some (va_re (gen g) (sr S (100 * ci + k) i)) = _
  rw [hk.2.2.1]
theorem e_ure {f ci k i : Nat} {v : Option Nat} (hi : i < n ∧ K i = ci) (hk : ob ci ∧ 100 * ci + k = f ∧ (tg ci)[k]? = some 3) : (wd g ad n K S).set i (ad i, .inr (ci, (fvs g ad S ci i).set k (va_re (gen g) v))) = wd g ad n K (ur S f i v) := by
  refine wd_set ?_ (fun j hj => cE_ur hj)
  rw [cE_obj hi.2 hk.1, fvs_set (S' := ur S f i v) hk.2.2]
  · show va_re (gen g) (sr (ur S f i v) (100 * ci + k) i) = _
    rw [hk.2.1]
    simp [sr, ur, up2]
  · intro j t' hj
    have hne : ¬ (100 * ci + j = f) := by omega
    unfold fv
    simp [si, sr, sl, ur, up2, hne]
theorem x_pute (v : Option Nat) {T : u_T} {C Cr : String} {N ci index i : Nat} {w : Value} {ty0 : Nat → FieldType} (k : Nat) (hC : Cx g p s m args c cc own Ts nL) (hin : ∀ w ∈ u_ws C T N, w ∈ Ts) (hty : ∀ k, k < N → parseFieldDescriptor (T k).2.2.1 = some (ty0 k)) (hnm : ∀ a, a < N → ∀ b, b < N → a ≠ b → (T a).2.1 ≠ (T b).2.1) (hW : Wb g ad n K S A H) (hS : va_S A s.heap H locs) (hi : i < n ∧ K i = ci) (ha : a = ad i) (hw9 : w = va_re (gen g) v) (hc : vwCl[ci]? = some (C, T, N)) (hk : k < N ∧ ob ci ∧ 100 * ci + k = 508 ∧ (tg ci)[k]? = some 3) (hT1 : (T k).1 = Cr) (hlink : (Cond.fieldLink own index Cr (T k).2.1 (T k).2.2.1).before args s = true) (hfin : (T k).2.2.2 = false) {cl : String} (hd : parseFieldDescriptor (T k).2.2.1 = some (.object cl)) (hdg : decode cc pc = .ok (.putfield index, 3))
    (kk : ∀ (S1 : St) (H1 : Heap) (locs1 : List Loc), S1 = ur S 508 i v → Wb g ad n K S1 A H1 → va_S A s.heap H1 locs1 → W p l e R s m args below meth c H1 locs1 cells slots Q (F0 m (pc + 3) ls rest)) : W p l e R s m args below meth c H locs cells slots Q (F0 m pc ls (w :: .ref a :: rest)) := by
  obtain ⟨hx, hb, -, hown, hts, hK⟩ := hC
  subst ha
  subst hw9
  have hw := wd_get (g := g) (ad := ad) (K := K) (S := S) hi.1
  rw [cE_obj hi.2 hk.2.1] at hw
  have hl : k < (fvs g ad S ci i).length := by
    have := (List.getElem?_eq_some_iff.mp hk.2.2.2).1
    simpa [fvs] using this
  refine va_put (D := gD g) (ci := ci) (v := va_re (gen g) v) (ty := .object cl) hx hb hts hin ty0 hty hnm hown hK hW.1 hW.2.1 hS i hw hc k hk.1 hlink (fun x h => by rw [hT1] at h; exact h) hfin hd (by cases v <;> rfl) (by cases v <;> rfl) hl hdg (fun H1 locs1 hP hD hS1 => ?_)
  have e := e_ure (g := g) (ad := ad) (S := S) (f := 508) (v := v) hi ⟨hk.2.1, hk.2.2.1, hk.2.2.2⟩
  rw [e] at hP hD
  exact kk _ H1 locs1 rfl ⟨hP, hD, WT_ur hW.2.2 (fun h => absurd rfl h)⟩ hS1
/-! texts -/
theorem x_ldcM (i : Nat) {tx : String} {index : Nat} (hC : Cx g p s m args c cc own Ts nL) (hM : GM g A s s.heap) (hq : own = RL ∧ (index, i, tx) ∈ msI) (hdg : decode cc pc = .ok (.ldc index, 2))
    (kk : W p l e R s m args below meth c H locs cells slots Q (F0 m (pc + 2) ls (.ref (gen g (100 + i)) :: rest))) : W p l e R s m args below meth c H locs cells slots Q (F0 m pc ls rest) := by
  obtain ⟨rfl, hq⟩ := hq
  exact va_ldcS hC.1 hC.2.1 hC.2.2.2.1 (hM.2.1 _ hq) hdg kk
theorem x_getsC {index : Nat} (hC : Cx g p s m args c cc own Ts nL) (hM : GM g A s s.heap) (hS : va_S A s.heap H locs) (hlink : (Cond.fieldLink own index "java/lang/String" "COMPACT_STRINGS" "Z").before args s = true) (hdg : decode cc pc = .ok (.getstatic index, 3))
    (kk : W p l e R s m args below meth c H locs cells slots Q (F0 m (pc + 3) ls (.int 1 :: rest))) : W p l e R s m args below meth c H locs cells slots Q (F0 m pc ls rest) :=
  va_gets hC.1 hC.2.1 hM.2.2.1 hS hC.2.2.2.1 hlink (fun x h => h) hdg kk
theorem x_getsF {index : Nat} (hC : Cx g p s m args c cc own Ts nL) (hM : GM g A s s.heap) (hS : va_S A s.heap H locs) (hlink : (Cond.fieldLink own index "jdk/internal/util/Preconditions" "SIOOBE_FORMATTER" "Ljava/util/function/BiFunction;").before args s = true) (hdg : decode cc pc = .ok (.getstatic index, 3))
    (kk : ∀ o : Option Nat, W p l e R s m args below meth c H locs cells slots Q (F0 m (pc + 3) ls (va_rf o :: rest))) : W p l e R s m args below meth c H locs cells slots Q (F0 m pc ls rest) := by
  obtain ⟨o, ho⟩ := hM.2.2.2.1
  exact va_gets hC.1 hC.2.1 ho hS hC.2.2.2.1 hlink (fun x h => h) hdg (kk o)
theorem x_recvM {i : Nat} (hM : GM g A s s.heap) (hi : i < 41) (hS : va_S A s.heap H locs) : ∃ cell : Cell, H[gen g (100 + i)]? = some cell ∧ cell.vm.isStatics = false ∧ s.vm.findClass "java/lang/String" = some cell.cls := by
  obtain ⟨cell, h1, h2, h3, -⟩ := (hM.1 i hi).1.kept hS.2.1
  exact ⟨cell, h1, h2, h3⟩
theorem nB {v : Int32} (h : v = 0 ∨ v = 1) : narrow .byte (.int v) = .int v := by rcases h with rfl | rfl <;> rfl
theorem nC {v : Int32} (h : v.toUInt32.toUInt16.toUInt32.toInt32 = v) : narrow .char (.int v) = .int v := by
  show Value.int _ = _
  rw [h]
end XE
