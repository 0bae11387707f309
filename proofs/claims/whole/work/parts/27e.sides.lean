/-! the two sides of the relation, each by itself -/
/-- the class's: its history, its spool -/
def RC (S : St) (n h f : Nat) (Ns Bs : Nat → Nat → Int32) (N B : Nat → Int32) : Prop := 212 ≤ n ∧ FxF S ∧ HC S n h f Ns Bs ∧ Cl S n 27 N B
/-- the model's -/
def RM (S : St) (h f : Nat) (Ns Bs : Nat → Nat → Int32) (N B : Nat → Int32) : Prop := HM S h f Ns Bs ∧ (∀ k, k < 6391 → ai S 198 k = N k) ∧ EqB N B (ai S 200) ∧ si S 1005 197 = 0 ∧ sr S 1004 197 = some 198
/-- buffers and the parse error -/
def RX (S : St) : Prop := (si S 903 0 = si S 1013 197 ∧ si S 904 0 = si S 1014 197) ∧ CI S ∧ CO S
theorem Rel.parts {S : St} {n : Nat} (g : Rel S n) : ∃ h f Ns Bs, RC S n h f Ns Bs (ai S 198) (ai S 200) ∧ RM S h f Ns Bs (ai S 198) (ai S 200) ∧ RX S := by
  obtain ⟨h, f, Ns, Bs, a, b⟩ := g.hs.split
  exact ⟨h, f, Ns, Bs, ⟨g.hn, g.fx, a, g.cl⟩, ⟨b, fun _ _ => rfl, EqB.rf _ _, g.mi.1, g.mi.2.1⟩, g.mi.2.2, g.ci, g.co⟩
theorem Rel.of {S : St} {n h f : Nat} {Ns Bs : Nat → Nat → Int32} {N B : Nat → Int32} (c : RC S n h f Ns Bs N B) (m : RM S h f Ns Bs N B) (x : RX S) : Rel S n :=
  ⟨c.1, c.2.1, ⟨m.2.2.2.1, m.2.2.2.2, x.1⟩, x.2.1, x.2.2, Hs.join c.2.2.1 m.1, c.2.2.2.cong m.2.1 m.2.2.1⟩
/-- what the class's calls write -/
def CFr (n : Nat) (S T : St) : Prop := (∀ i, i < n → ¬ i = 0 → ¬ (24 ≤ i ∧ i ≤ 68) → ¬ (70 ≤ i ∧ i ≤ 196) → ¬ i = 210 → ¬ i = 211 → SameO S T i) ∧ (∀ f, ¬ f = 908 → ¬ f = 909 → si T f 0 = si S f 0)
theorem CFr.rf (n : Nat) (S : St) : CFr n S S := ⟨fun i _ _ _ _ _ _ => SameO.rf S i, fun _ _ _ => rfl⟩
theorem CFr.tr {n n' : Nat} {S T U : St} (h : CFr n S T) (g : CFr n' T U) (hn : n ≤ n') : CFr n S U := ⟨fun i a b c d e f => (h.1 i a b c d e f).tr (g.1 i (by omega) b c d e f), fun f a b => (g.2 f a b).trans (h.2 f a b)⟩
theorem RM.cfr {S T : St} {n h f : Nat} {Ns Bs : Nat → Nat → Int32} {N B : Nat → Int32} (m : RM S h f Ns Bs N B) (c : CFr n S T) (hn : 212 ≤ n) : RM T h f Ns Bs N B := by
  have O : ∀ i, (i = 197 ∨ i = 198 ∨ i = 200 ∨ i = 207 ∨ i = 208) → SameO S T i := fun i hi => c.1 i (by omega) (by omega) (by omega) (by omega) (by omega) (by omega)
  obtain ⟨⟨m1, m2, m3⟩, m4, m5, m6, m7⟩ := m
  refine ⟨⟨by rw [(O 197 (by omega)).1]; exact m1, by rw [(O 197 (by omega)).1]; exact m2, ?_⟩, ?_, ?_, by rw [(O 197 (by omega)).1]; exact m6, by rw [(O 197 (by omega)).2.1]; exact m7⟩
  · rw [(O 207 (by omega)).2.2.1, (O 208 (by omega)).2.2.1]; exact m3
  · rw [(O 198 (by omega)).2.2.1]; exact m4
  · rw [(O 200 (by omega)).2.2.1]; exact m5
theorem RX.cfr {S T : St} {n : Nat} (x : RX S) (c : CFr n S T) (hn : 212 ≤ n) : RX T := by
  have O : ∀ i, (i = 197 ∨ i = 20 ∨ i = 21 ∨ i = 22 ∨ i = 23 ∨ i = 201 ∨ i = 209) → SameO S T i := fun i hi => c.1 i (by omega) (by omega) (by omega) (by omega) (by omega) (by omega)
  obtain ⟨x1, ⟨k, i1, i2, i3, i4⟩, k', o1, o2, o3, o4⟩ := x
  refine ⟨?_, ⟨k, i1, by rw [(O 20 (by omega)).1]; exact i2, by rw [(O 197 (by omega)).1]; exact i3, by rw [(O 21 (by omega)).2.2.1, (O 201 (by omega)).2.2.1]; exact i4⟩, k', o1, by rw [(O 22 (by omega)).1]; exact o2, by rw [(O 197 (by omega)).1]; exact o3, by rw [(O 23 (by omega)).2.2.1, (O 209 (by omega)).2.2.1]; exact o4⟩
  rw [c.2 903 (by decide) (by decide), c.2 904 (by decide) (by decide), (O 197 (by omega)).1, (O 197 (by omega)).1]
  exact x1
theorem MFr.same {S T : St} (m : MFr S T) {i : Nat} (h : ¬ (197 ≤ i ∧ i ≤ 200)) (h2 : ¬ (202 ≤ i ∧ i ≤ 208)) : SameO S T i := ⟨fun f => m.2.1 f i (by omega), fun f => m.1 f i, m.2.2.2.1 i (by omega) h2, by rw [m.2.2.2.2.1], by rw [m.2.2.2.2.2.1], by rw [m.2.2.2.2.2.2]⟩
theorem HC.agr {S T : St} {n n' h f : Nat} {Ns Bs : Nat → Nat → Int32} (c : HC S n h f Ns Bs) (hn : n ≤ n') (e : ∀ i, (70 ≤ i ∧ i ≤ 195) ∨ (1 ≤ i ∧ i ≤ 19) ∨ (212 ≤ i ∧ i < n) → SameO S T i) (s1 : si T 909 0 = si S 909 0) (s2 : si T 908 0 = si S 908 0) : HC T n' h f Ns Bs := by
  obtain ⟨c1, c2, c3, c4, c5⟩ := c
  refine ⟨c1, c2, s1.trans c3, s2.trans c4, fun i hi => ?_⟩
  have := Nat.mod_lt (f + i) (show 0 < 6 by omega)
  exact (c5 i hi).agr hn (fun k hk => e k (by omega))
theorem RC.mfr {S T : St} {n h f : Nat} {Ns Bs : Nat → Nat → Int32} {N B : Nat → Int32} (c : RC S n h f Ns Bs N B) (m : MFr S T) : RC T n h f Ns Bs N B :=
  ⟨c.1, m.fx c.2.1, c.2.2.1.agr (Nat.le_refl _) (fun i hi => m.same (by omega) (by omega)) (m.2.1 _ _ (by decide)) (m.2.1 _ _ (by decide)), c.2.2.2.agr (Nat.le_refl _) (fun i hi => m.same (by omega) (by omega))⟩
theorem RX.mfr {S T : St} (x : RX S) (m : MFr S T) : RX T := by
  obtain ⟨x1, ⟨k, i1, i2, i3, i4⟩, k', o1, o2, o3, o4⟩ := x
  have O : ∀ i, (i = 0 ∨ i = 20 ∨ i = 21 ∨ i = 22 ∨ i = 23 ∨ i = 201 ∨ i = 209) → SameO S T i := fun i hi => m.same (by omega) (by omega)
  refine ⟨?_, ⟨k, i1, by rw [(O 20 (by omega)).1]; exact i2, by rw [m.2.2.1 _ (by omega)]; exact i3, by rw [(O 21 (by omega)).2.2.1, (O 201 (by omega)).2.2.1]; exact i4⟩, k', o1, by rw [(O 22 (by omega)).1]; exact o2, by rw [m.2.2.1 _ (by omega)]; exact o3, by rw [(O 23 (by omega)).2.2.1, (O 209 (by omega)).2.2.1]; exact o4⟩
  rw [(O 0 (by omega)).1, (O 0 (by omega)).1, m.2.2.1 1013 (by omega), m.2.2.1 1014 (by omega)]
  exact x1
/-- the model's words that a scratch write leaves -/
def MSc (S T : St) : Prop := MFr S T ∧ ai T 198 = ai S 198 ∧ ai T 200 = ai S 200 ∧ ai T 207 = ai S 207 ∧ ai T 208 = ai S 208 ∧ si T 1026 197 = si S 1026 197 ∧ si T 1027 197 = si S 1027 197
theorem Sc.ms {S T : St} (h : Sc S T) : MSc S T := ⟨h.2.2.2.1, h.n, h.b, h.1.2.2.1 207 (by decide), h.1.2.2.1 208 (by decide), h.1.2.1 _ _ (by decide), h.1.2.1 _ _ (by decide)⟩
theorem MSc.thr (S : St) (v : Int32) : MSc S (ui S 1000 197 v) := ⟨MFr.ui v (by omega), rfl, rfl, rfl, rfl, rfl, rfl⟩
theorem MSc.rf (S : St) : MSc S S := ⟨MFr.rf S, rfl, rfl, rfl, rfl, rfl, rfl⟩
theorem MSc.tr {S T U : St} (h : MSc S T) (g : MSc T U) : MSc S U := ⟨h.1.tr g.1, g.2.1.trans h.2.1, g.2.2.1.trans h.2.2.1, g.2.2.2.1.trans h.2.2.2.1, g.2.2.2.2.1.trans h.2.2.2.2.1, g.2.2.2.2.2.1.trans h.2.2.2.2.2.1, g.2.2.2.2.2.2.trans h.2.2.2.2.2.2⟩
theorem RM.ms {S T : St} {h f : Nat} {Ns Bs : Nat → Nat → Int32} {N B : Nat → Int32} (m : RM S h f Ns Bs N B) (c : MSc S T) : RM T h f Ns Bs N B := by
  obtain ⟨⟨m1, m2, m3⟩, m4, m5, m6, m7⟩ := m
  obtain ⟨c1, c2, c3, c4, c5, c6, c7⟩ := c
  exact ⟨⟨c6.trans m1, c7.trans m2, by rw [c4, c5]; exact m3⟩, by rw [c2]; exact m4, by rw [c3]; exact m5, (c1.2.2.1 _ (by omega)).trans m6, (c1.1 _ _).trans m7⟩
/-- the model's remembering -/
theorem RM.rem {F : Nat} {S : St} {h f : Nat} {Ns Bs : Nat → Nat → Int32} {N B : Nat → Int32} (hx : FxF S) (m : RM S h f Ns Bs N B) (hb : h ≤ 6 ∧ f < 6 ∧ ∀ i, i < h → WB (Ns ((f + i) % 6)) (Bs ((f + i) % 6))) (w : WB N B) (hF : 100000 ≤ F) : ∃ T, f_X11_remember F S 197 = some T ∧ RM T (hN h) (fN h f) (setF Ns (tN h f) N) (setF Bs (tN h f) B) N B ∧ MFr S T ∧ ai T 198 = ai S 198 ∧ ai T 200 = ai S 200 ∧ si T 1000 197 = si S 1000 197 := by
  obtain ⟨m1, m2, m3, m4, m5⟩ := m
  obtain ⟨T, t1, t2, t3⟩ := m_remember hx m1 hb.2.2 hb.1 hb.2.1 w m2 m3 hF
  have e8 : ai T 198 = ai S 198 := t3.2.2.1 198 (by unfold pA; omega)
  have e0 : ai T 200 = ai S 200 := t3.2.2.1 200 (by unfold pA; omega)
  refine ⟨T, t1, ⟨t2, by rw [e8]; exact m2, by rw [e0]; exact m3, (t3.2.1 _ _ (by unfold pM; omega)).trans m4, (t3.1 _ _).trans m5⟩, ⟨t3.1, fun f i hi => t3.2.1 f i (by omega), fun f hf => t3.2.1 f 197 (by unfold pM; omega), fun i a b => t3.2.2.1 i (by unfold pA; omega), t3.2.2.2.1, t3.2.2.2.2.1, t3.2.2.2.2.2⟩, e8, e0, t3.2.1 _ _ (by unfold pM; omega)⟩
/-- the class's -/
theorem RC.rem {F : Nat} {S : St} {n h f : Nat} {Ns Bs : Nat → Nat → Int32} {N B : Nat → Int32} (c : RC S n h f Ns Bs N B) (hF : 1000 ≤ F) : ∃ T, f_X10_remember F S 0 = some T ∧ RC T n (hN h) (fN h f) (setF Ns (tN h f) N) (setF Bs (tN h f) B) N B ∧ CFr n S T ∧ (∀ i, 27 ≤ i → i ≤ 47 → SameO S T i) ∧ SameO S T 20 ∧ SameO S T 210 ∧ SameO S T 211 := by
  obtain ⟨c1, c2, c3, c4⟩ := c
  obtain ⟨T, t1, t2, t3, t4, t5, t6, t7, t8, t9⟩ := e_remember c2 c3 c4 hF
  have tl := tN_lt h f
  have hx : FxF T := c2.agr (fun f' i hf _ => t5 f' i (fun z => hf z.1)) (fun i _ => by rw [t9]) (t3 69 (by omega) (by omega)).2.2.2.2.1
  exact ⟨T, t1, ⟨c1, hx, t2, c4.agr (Nat.le_refl _) (fun i hi => t3 i (by omega) (by omega))⟩, ⟨fun i a b c d e g => t3 i b (by omega), fun g a b => t4 g a b⟩, fun i a b => t3 i (by omega) (by omega), t3 20 (by omega) (by omega), t3 210 (by omega) (by omega), t3 211 (by omega) (by omega)⟩
theorem CFr.out (n : Nat) (S : St) (k : Nat) (v : Int64) : CFr n S (ual S 210 k v) := ⟨fun i _ _ _ _ h _ => SameO.ual v h, fun _ _ _ => rfl⟩
theorem RC.out {S : St} {n h f : Nat} {Ns Bs : Nat → Nat → Int32} {N B : Nat → Int32} (c : RC S n h f Ns Bs N B) (k : Nat) (v : Int64) : RC (ual S 210 k v) n h f Ns Bs N B :=
  ⟨c.1, c.2.1.agr (fun _ _ _ _ => rfl) (fun _ _ => rfl) rfl, c.2.2.1.agr (Nat.le_refl _) (fun i hi => by
    rcases Nat.lt_or_ge 210 i with z | z
    · exact SameO.ual v (by omega)
    · exact SameO.ual v (by omega)) rfl rfl, c.2.2.2.agr (Nat.le_refl _) (fun i hi => SameO.ual v (by omega))⟩
/-- a call that may be refused, and else changes both sides alike -/
theorem endM {F : Nat} {n : Nat} {fc : Option (Int32 × St)} {fm : St → Option (Int32 × St)} (r : Int32) (S1 S2 : St) (hc : fc = some (0, ual S1 210 0 r.toInt64)) (hm : fm (ual S1 210 0 r.toInt64) = some (r, S2)) (h3 : si S2 1000 197 = 0) (ha : al S2 = al (ual S1 210 0 r.toInt64)) (hR : Rel S2 n) :
    Ok (Option.bind fc fun z2 => lt z2.1 fun r4 => lt z2.2 fun S3 => Option.bind (fm S3) fun z7 => lt z7.1 fun r9 => lt z7.2 fun S8 => Option.bind (f_X11_thrown F S8 197) fun z11 => lt z11.1 fun r13 => lt z11.2 fun S12 =>
      if r13 = r4 then (if ¬ r4 = 0 then (some (S12, n)) else (cki 0 (ln S12 210) <| if (lg_cmp (al S12 210 (Int32.toNatClampNeg 0)) r9.toInt64) = 0 then (some (S12, n)) else (none))) else (none)) :=
  endL 0 r _ S2 hc hm h3 (fun _ => by rw [ha, al_ual, if_pos ⟨rfl, rfl⟩]) hR
