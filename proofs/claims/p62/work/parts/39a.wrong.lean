/-! wrong texts -/
section Ct
variable {F : Nat} {S : St} {n m x y : Nat} {a b : List Int32}
/-- new StringBuilder().append(x).append(y).toString() -/
theorem er_cat (hF : 10 ≤ F) (hn : 197 ≤ n) (tx : Tx S n x a) (ty : Tx S n y b) (ha : ascL a) (hb : ascL b) (hl : (a ++ b).length ≤ 300) : ∃ T n' r, (∀ K : Nat → St → Nat → Option (Int32 × St × Nat), (lt (nob S n) fun S1 => lt (n + 1) fun n1 =>
    Option.bind (f_J4_init_da8c8 F S1 n1 n) fun z2 => lt z2.1 fun S3 => lt z2.2 fun n4 =>
    Option.bind (f_J4_append_15ec4 F S3 n4 n x) fun z5 => lt z5.1 fun r6 => lt z5.2.1 fun S7 => lt z5.2.2 fun n8 =>
    Option.bind r6 fun j9 =>
    Option.bind (f_J4_append_15ec4 F S7 n8 j9 y) fun z10 => lt z10.1 fun r11 => lt z10.2.1 fun S12 => lt z10.2.2 fun n13 =>
    Option.bind r11 fun j14 =>
    Option.bind (f_J4_toString_0e30d F S12 n13 j14) fun z15 => lt z15.1 fun r16 => lt z15.2.1 fun S17 => lt z15.2.2 fun n18 => K r16 S17 n18) = K r T n') ∧ n ≤ n' ∧ Tx T n' r (a ++ b) ∧ ∀ i, i < n → SameO S T i := by
  have z3 : si (nob S n) 1003 n = 0 := by rw [si_nob, if_pos rfl]
  obtain ⟨T1, n1, e1, ⟨⟨v, v1, v2, v3⟩, r2, r3, r4⟩⟩ := e_new0 (F := F) (S := nob S n) (b := n) (m := n) (n := n + 1) (by omega) (Nat.le_refl _) z3
  have h1 : Bd S T1 n n n1 [] := ⟨⟨v, v1, v2, v3⟩, ⟨Nat.le_refl _, r2⟩, fun i hi => (SameO.nob (by omega)).tr (r4 i hi)⟩
  have fr1 : ∀ i, 197 ≤ i → i < n → SameO S T1 i := fun i _ hi => h1.2.2 i hi
  rw [List.length_append] at hl
  obtain ⟨T2, n2, e2, m2, h2⟩ := b_S (F := F) h1 (tx.fr fr1) ha (by rw [List.nil_append]; omega)
  rw [List.nil_append] at h2
  obtain ⟨T3, n3, e3, m3, h3⟩ := b_S (F := F) h2 (ty.fr (fun i _ hi => h2.2.2 i hi)) hb (by rw [List.length_append]; omega)
  obtain ⟨⟨v', v1', v2', v3'⟩, ⟨b1, b2⟩, fr⟩ := h3
  obtain ⟨T4, n4, e4, t1, t2, t3⟩ := e_toS (F := F) v1' b2 v3' (by omega)
  refine ⟨T4, n4, n3 + 41, fun K => ?_, by omega, t1, fun i hi => (fr i hi).tr (t3 i (by omega))⟩
  simp only [lt_eq]
  rw [e1, ob_some, e2, ob_some]
  simp only [ob_some]
  rw [e3, ob_some]
  simp only [ob_some]
  rw [e4, ob_some]
end Ct
/-- an empty spool that nothing is fed to -/
def Qs (S : St) (n : Nat) : Prop := RC S n 0 0 (fun _ _ => 0) (fun _ _ => 0) NI (fun _ => 0) ∧ si S 1 20 = 0
theorem RC.grow {S T : St} {n n' h f : Nat} {Ns Bs : Nat → Nat → Int32} {N B : Nat → Int32} (c : RC S n h f Ns Bs N B) (hn : n ≤ n') (e : ∀ i, i < n → SameO S T i) : RC T n' h f Ns Bs N B := by
  have := c.1
  exact c.lift hn (fun i hi => e i (by omega)) ((e 0 (by omega)).1 _) ((e 0 (by omega)).1 _) (fun g i hi => (e i (by omega)).2.1 g) (fun i hi => (e i (by omega)).2.2.2.2.2)
theorem RC.fed {S T : St} {n h f : Nat} {Ns Bs : Nat → Nat → Int32} {N B : Nat → Int32} (c : RC S n h f Ns Bs N B) (e : FeC S T) : RC T n h f Ns Bs N B :=
  c.lift (Nat.le_refl _) (fun i hi => e.so (by omega) (by omega)) (e.2.1 _ _ (by omega)) (e.2.1 _ _ (by omega)) (fun g i _ => e.1 g i) (fun i _ => by rw [e.2.2.2.2.2])
theorem Qs.grow {S T : St} {n n' : Nat} (h : Qs S n) (hn : n ≤ n') (e : ∀ i, i < n → SameO S T i) : Qs T n' := ⟨h.1.grow hn e, by have := h.1.1; rw [(e 20 (by omega)).1]; exact h.2⟩
section Wr
variable {F : Nat} {S : St} {n x : Nat} {l : List Int32}
theorem er_w {c t : Nat} {ci ti : Int32} (hc : ci = nI c) (ht : ti = nI t) (hF : 100000 ≤ F) (q : Qs S n) (tx : Tx S n x l) (ha : ascL l) (hl : l.length ≤ 400) (e : pTe (chL l) l.length = some (.inl (c, t))) :
    ∃ T n', (∀ K : Int32 → St → Nat → Option (Int32 × St × Nat), (Option.bind (f_L_wrong F S n 0 x ci ti) fun z1 => lt z1.1 fun r2 => lt z1.2.1 fun S3 => lt z1.2.2 fun n4 => K r2 S3 n4) = K 1 T n') ∧ n ≤ n' ∧ Qs T n' ∧ ∀ i, 197 ≤ i → i < n → SameO S T i := by
  obtain ⟨T1, f1, f2, f3⟩ := e_feed (F := F) (m := n) (x := x) ha hl (by omega) q.1.2.1 tx q.2
  have ld := e_load (F := F) (q.1.fed f2) f3 hF
  rw [e] at ld
  obtain ⟨T, l1, l2, ⟨l3, l4, l5⟩, l6⟩ := ld
  refine ⟨T, n + 20, fun K => ?_, by omega, ⟨l2, l5⟩, fun i a b => (f2.so (by omega) (by omega)).tr (l6 i a b)⟩
  unfold f_L_wrong f_X10_errorCode f_X10_errorPosition
  rw [f1, ob_some, l1, ob_some]
  simp only [lt_eq, ob_some]
  rw [if_neg (fun y => y True.intro), l3, hc, if_neg (fun y => y rfl), l4, ht, if_neg (fun y => y rfl), ob_some]
end Wr
def erE (x : PR) : Option (Nat × Nat) := match x with
  | some (.inl e) => some e
  | _ => none
theorem erE_i {x : PR} {e : Nat × Nat} (h : erE x = some e) : x = some (.inl e) := by
  match x, h with
  | some (.inl e'), h => cases h; rfl
def erC : List Int32 := cs 21 ++ cs 22
def erU : List Int32 := erC ++ cs 23
def erL : Nat → Nat → List Int32
  | _, 0 => []
  | k, d + 1 => (cs 39 ++ ltr k ++ cs 40) ++ erL (k + 1) d
def erT : List (List Int32 × Nat × Nat) := [(cs 24, 1, 0), (cs 25, 2, 12), (cs 21 ++ cs 26, 4, 22), (cs 21 ++ cs 27, 1, 28), (cs 21 ++ cs 28, 2, 35), (erC ++ cs 29, 3, 43), (erC ++ cs 30, 3, 57), (erC ++ cs 31, 2, 57), (erC ++ cs 32, 4, 37), (erC ++ cs 33, 3, 50), (erU ++ cs 34, 3, 66), (erU ++ cs 35, 3, 68), (erU ++ cs 36, 3, 72), (erU ++ cs 37, 2, 84), (erU ++ cs 38, 1, 79), (cs 21 ++ erL 0 9, 4, 150)]
theorem erT_all : erT.all (fun e => erE (pTe (chL e.1) e.1.length) == some (e.2.1, e.2.2)) = true := by decide +kernel
theorem erT_asc : erT.all (fun e => e.1.all (fun c => decide (0 ≤ c) && decide (c ≤ 127)) && decide (e.1.length ≤ 300)) = true := by decide +kernel
theorem er_i {l : List Int32} {c t : Nat} (h : (l, c, t) ∈ erT) : pTe (chL l) l.length = some (.inl (c, t)) ∧ ascL l ∧ l.length ≤ 300 := by
  have a := List.all_eq_true.mp erT_all _ h
  have b := List.all_eq_true.mp erT_asc _ h
  rw [beq_iff_eq] at a
  rw [Bool.and_eq_true, decide_eq_true_iff] at b
  refine ⟨erE_i a, fun z hz => ?_, b.2⟩
  have := List.all_eq_true.mp b.1 z hz
  rw [Bool.and_eq_true, decide_eq_true_iff, decide_eq_true_iff] at this
  exact this
theorem asc_app {a b : List Int32} (h : ascL (a ++ b)) : ascL a ∧ ascL b := ⟨fun c hc => h c (List.mem_append_left _ hc), fun c hc => h c (List.mem_append_right _ hc)⟩
/-! asking an empty spool -/
section Ak
variable {F : Nat} {S : St} {n h f : Nat} {Ns Bs : Nat → Nat → Int32} {N B : Nat → Int32}
theorem a_count (c : RC S n h f Ns Bs N B) : f_X10_count F S 0 0 = some (.inr (N 3), S) ∧ f_X10_count F S 0 3 = some (.inr (N 6), S) := by
  obtain ⟨hn, hx, hc, cl⟩ := c
  obtain ⟨r, r1, r2, ru, ⟨q0, q1, q3, q4, q5, q6⟩, -⟩ := cl.2.1
  unfold f_X10_count
  constructor
  · rw [e_needKind, ob_some]
    unfold f_X7_namesOf
    rw [if_pos (by decide)]
    simp only [lt_eq, sm_r]
    rw [hx.r905_0, ob_some, r1, ob_some, if_pos True.intro, ru.r602_0, ob_some, ob_some, ob_some, q3]
  · rw [e_needKind, ob_some]
    unfold f_X7_namesOf
    rw [if_pos (by decide)]
    simp only [lt_eq, sm_r]
    rw [hx.r905_0, ob_some, r1, ob_some, if_neg (by decide), if_neg (by decide), if_neg (by decide), ru.r611_0, ob_some, ob_some, ob_some, q6]
theorem a_undo (c : RC S n h f Ns Bs N B) : f_X10_undoCount F S 0 = some (nI h, S) := by
  unfold f_X10_undoCount
  rw [c.2.2.1.2.2.1]
theorem a_day (c : RC S n h f Ns Bs N B) : f_X10_day F S 0 = some (N 2, S) := by
  obtain ⟨hn, hx, hc, cl⟩ := c
  unfold f_X10_day
  rw [hx.r905_0, ob_some, cl.2.2.1.1]
end Ak
