/-! a message is taken: both sides -/
section Go
variable {F : Nat} {S : St} {n L : Nat}
theorem RM.same {S T : St} {h f : Nat} {Ns Bs : Nat → Nat → Int32} {N B : Nat → Int32} (m : RM S h f Ns Bs N B) (O : ∀ i, (i = 197 ∨ i = 198 ∨ i = 200 ∨ i = 207 ∨ i = 208) → SameO S T i) : RM T h f Ns Bs N B := by
  obtain ⟨⟨m1, m2, m3⟩, m4, m5, m6, m7⟩ := m
  refine ⟨⟨by rw [(O 197 (by omega)).1]; exact m1, by rw [(O 197 (by omega)).1]; exact m2, ?_⟩, ?_, ?_, by rw [(O 197 (by omega)).1]; exact m6, by rw [(O 197 (by omega)).2.1]; exact m7⟩
  · rw [(O 207 (by omega)).2.2.1, (O 208 (by omega)).2.2.1]; exact m3
  · rw [(O 198 (by omega)).2.2.1]; exact m4
  · rw [(O 200 (by omega)).2.2.1]; exact m5
theorem Mf.m98 {S T : St} (h : Mf no8 is98 S T) : MFr S T := ⟨h.1, fun f i a => h.2.1 f i (fun z => a z.1), fun f _ => h.2.1 f 197 (fun z => z.2), fun i a _ => h.2.2.1 i (fun z => by rcases z with z | z <;> omega), h.2.2.2.1, h.2.2.2.2.1, h.2.2.2.2.2⟩
/-- the class's side moved: what lies apart -/
theorem RC.move {S T : St} {n h f : Nat} {Ns Bs : Nat → Nat → Int32} {N B : Nat → Int32} (c : RC S n h f Ns Bs N B) (e : ∀ k, ¬ k = 20 → ¬ k = 197 → SameO S T k) (e1 : sr T = sr S) (e2 : ln T = ln S) : RC T n h f Ns Bs N B :=
  ⟨c.1, c.2.1.agr (fun f i _ _ => by rw [e1]) (fun i _ => by rw [e2]) (e 69 (by omega) (by omega)).2.2.2.2.1, c.2.2.1.agr (Nat.le_refl _) (fun i hi => e i (by omega) (by omega)) ((e 0 (by omega) (by omega)).1 _) ((e 0 (by omega) (by omega)).1 _), c.2.2.2.agr (Nat.le_refl _) (fun i hi => e i (by omega) (by omega))⟩
theorem e_go {sn rec : Nat} {c : Int32} (h : Rel S n) (hc : Cut S (ai S 201) L) (hL : L ≤ 1200) (l1 : si S 1 20 = nI L) (l2 : si S 1007 197 = nI L) (hf : ∀ i, i < L → ai S 21 i = ai S 201 i ∧ (ai S 201 i).toInt8.toInt32 = ai S 201 i) (hg : gdC (ai S 201) L) (hm : kN (ai S 198) 7 < 120) (hsn : sn ≤ 10) (hrc : rec < 1024) (hru : ∀ u, rec.testBit u = true → u < kN (ai S 198) 4)
    (hcl : c = -1 ∨ ∃ cc, c = nI cc ∧ cc < kN (ai S 198) 3) (hF : 100000 ≤ F) : ∃ T nT q, (Option.bind (f_X10_remember F S 0) fun S26 =>
    Option.bind (sr S26 905 0) fun j29 =>
    Option.bind (sr S26 902 0) fun j30 =>
    Option.bind (f_X8_receive F S26 n j29 j30 (nI sn) (nI rec) c) fun z31 => lt z31.1 fun r33 => lt z31.2.1 fun S32 => lt z31.2.2 fun n34 =>
    Option.bind (sr S32 900 0) fun j38 =>
    Option.bind (f_X0_cutTo F S32 j38 ((0 : Int32))) fun S40 =>
    some ((.inr r33 : Nat ⊕ Int32), S40, n34)) = some (.inr q, T, nT) ∧ FxF T ∧ (ai T 198 = ai S 198 ∧ ai T 200 = ai S 200 ∧ ai T 201 = ai S 201 ∧ si T 1007 197 = nI L) ∧
    ∀ U, Sc (ual T 210 0 q.toInt64) U → MCut U (ai S 201) L → ∃ V, goM F (nI sn) (nI rec) c (ui U 1000 197 0) = some (q, V) ∧ si V 1000 197 = 0 ∧ al V = al (ual T 210 0 q.toInt64) ∧ Rel V nT := by
  have hn := h.hn
  obtain ⟨hh, ff, Ns, Bs, rc, rm, rx⟩ := h.parts
  obtain ⟨T1, t1, t2, t3, t4, t5, t6, t7⟩ := rc.rem (F := F) (by omega)
  obtain ⟨T1', v1, -, v3, -, v5, -, -, -, v9⟩ := e_remember (F := F) rc.2.1 rc.2.2.1 rc.2.2.2 (by omega)
  obtain rfl : T1' = T1 := by rw [t1] at v1; exact (Option.some.inj v1).symm
  have tl := tN_lt hh ff
  have low : ∀ i, ¬ i = 0 → ¬ (70 ≤ i ∧ i ≤ 195) → SameO S T1' i := fun i a b => v3 i a (by omega)
  have hx1 := t2.2.1
  have i1 : Inp T1' (ai S 201) L := ⟨hL, ((low 20 (by omega) (by omega)).1 1).trans l1, fun i hi => by rw [(low 21 (by omega) (by omega)).row]; exact hf i hi⟩
  have c1 : Cut T1' (ai S 201) L := ⟨((low 24 (by omega) (by omega)).1 103).trans hc.1, fun j hj => by rw [(low 25 (by omega) (by omega)).row, (low 26 (by omega) (by omega)).row]; exact hc.2 j hj⟩
  obtain ⟨T2, nT, p1, p2, p3, p4, p5, p6⟩ := e_receive (F := F) (c := c) t2.2.2.2 hx1 i1 c1 hg hn hm hsn hrc hru hcl (by omega)
  obtain ⟨q, hq⟩ : ∃ q : Int32, q = if bN (ai S 198) rec (szC (ai S 201) L (kC (ai S 201) L)) = rec then -2 else nI (kN (ai S 198) 7) := ⟨_, rfl⟩
  rw [← hq] at p1
  have hx2 : FxF T2 := hx1.agr (fun f i _ _ => p5 f i (by omega)) (fun i _ => p6 i (by omega)) (p4 69 (by omega) (by omega)).2.2.2.2.1
  have rc2 : RC T2 nT (hN hh) (fN hh ff) (setF Ns (tN hh ff) (ai S 198)) (setF Bs (tN hh ff) (ai S 200)) (afN (ai S 198) (ai S 200) (ai S 201) L sn rec c) (afB (ai S 198) (ai S 200) (ai S 201) L rec) :=
    ⟨by omega, hx2, t2.2.2.1.agr p2 (fun i hi => p4 i (by omega) (by omega)) ((p4 0 (by omega) (by omega)).1 _) ((p4 0 (by omega) (by omega)).1 _), p3⟩
  have l20 : si T2 1 20 = nI L := ((p4 20 (by omega) (by omega)).1 1).trans i1.2.1
  obtain ⟨T3, k1, k2, k3, k4, k5⟩ : ∃ T3, f_X0_cutTo F T2 20 0 = some T3 ∧ si T3 1 20 = 0 ∧ (∀ k, ¬ k = 20 → SameO T2 T3 k) ∧ sr T3 = sr T2 ∧ ln T3 = ln T2 := by
    unfold f_X0_cutTo
    rw [if_neg (by decide), l20]
    by_cases z : L = 0
    · rw [z, if_pos (show nI 0 ≤ 0 by decide)]
      exact ⟨T2, rfl, by rw [l20, z]; rfl, fun k _ => SameO.rf _ _, rfl, rfl⟩
    · rw [if_neg (nI_nle (by omega) (by omega))]
      exact ⟨_, rfl, by rw [si_ui, if_pos ⟨rfl, rfl⟩], fun k a => SameO.ui _ a, rfl, rfl⟩
  have rc3 := rc2.move (fun k a _ => k3 k a) k4 k5
  have rc4 := rc3.out 0 q.toInt64
  have sm : ∀ k, ¬ k = 0 → k < n → ¬ (70 ≤ k ∧ k ≤ 195) → ¬ (27 ≤ k ∧ k ≤ 47) → ¬ k = 20 → SameO S T3 k := fun k a b c d e => ((low k a c).tr (p4 k b d)).tr (k3 k e)
  refine ⟨T3, nT, q, ?_, rc3.2.1, ⟨(sm 198 (by omega) (by omega) (by omega) (by omega) (by omega)).row, (sm 200 (by omega) (by omega) (by omega) (by omega) (by omega)).row, (sm 201 (by omega) (by omega) (by omega) (by omega) (by omega)).row, ((sm 197 (by omega) (by omega) (by omega) (by omega) (by omega)).1 _).trans l2⟩, fun U sU mU => ?_⟩
  · rw [t1, ob_some, hx1.r905_0, ob_some, hx1.r902_0, ob_some, p1, ob_some]
    simp only [lt_eq]
    rw [hx2.r900_0, ob_some, k1, ob_some]
  obtain ⟨S1, hS1⟩ : ∃ S1, S1 = ual T3 210 0 q.toInt64 := ⟨_, rfl⟩
  rw [← hS1] at sU rc4 ⊢
  have s1 : ∀ k, ¬ k = 0 → k < n → ¬ (70 ≤ k ∧ k ≤ 195) → ¬ (27 ≤ k ∧ k ≤ 47) → ¬ k = 20 → ¬ k = 210 → SameO S S1 k := fun k a b c d e g => by rw [hS1]; exact (sm k a b c d e).tr (SameO.ual _ g)
  have z0 : ∀ g, ¬ g = 908 → ¬ g = 909 → si S1 g 0 = si S g 0 := fun g a b => by
    rw [hS1]
    show si T3 g 0 = _
    rw [(k3 0 (by omega)).1, (p4 0 (by omega) (by omega)).1]
    exact t3.2 g a b
  have hx4 := rc4.2.1
  have hxU := sU.fx hx4
  obtain ⟨U0, hU0⟩ : ∃ U0, U0 = ui U 1000 197 0 := ⟨_, rfl⟩
  have ms : MSc S1 U0 := by rw [hU0]; exact sU.ms.tr (MSc.thr U 0)
  have hxU0 := ms.1.fx hx4
  have rm0 : RM U0 hh ff Ns Bs (ai S 198) (ai S 200) := (rm.same (fun i hi => s1 i (by omega) (by omega) (by omega) (by omega) (by omega) (by omega))).ms ms
  obtain ⟨U1, u1, u2, u3, u4, u5, u6⟩ := rm0.rem (F := F) hxU0 rc.old h.w hF
  obtain ⟨U1', w1, -, w3⟩ := m_remember (F := F) hxU0 rm0.1 rc.old.2.2 rc.old.1 rc.old.2.1 h.w rm0.2.1 rm0.2.2.1 hF
  obtain rfl : U1' = U1 := by rw [u1] at w1; exact (Option.some.inj w1).symm
  have hxU1 := u3.fx hxU0
  have a198 : ai S1 198 = ai S 198 := (s1 198 (by omega) (by omega) (by omega) (by omega) (by omega) (by omega)).row
  have a200 : ai S1 200 = ai S 200 := (s1 200 (by omega) (by omega) (by omega) (by omega) (by omega) (by omega)).row
  have a201 : ai S1 201 = ai S 201 := (s1 201 (by omega) (by omega) (by omega) (by omega) (by omega) (by omega)).row
  have mc0 : MCut U0 (ai S 201) L := ⟨by rw [hU0, si_ui, if_neg (by omega)]; exact mU.1, fun j hj => by rw [hU0, ai_ui]; exact mU.2 j hj⟩
  have mc1 : MCut U1' (ai S 201) L := ⟨(w3.2.1 1018 197 (fun t => by rcases t.2 with y | y <;> omega)).trans mc0.1, fun j hj => by rw [w3.2.2.1 203 (fun t => by rcases t with y | y <;> omega)]; exact mc0.2 j hj⟩
  have m01 : MFr S1 U1' := ms.1.tr u3
  obtain ⟨V0, x1, x2, x3, x4⟩ := m_take (F := F) (sn := sn) hxU1 u2.2.2.2.1 (u4.trans (ms.2.1.trans a198)) (u5.trans (ms.2.2.1.trans a200)) h.wf mc1 hL (fun i hi => by rw [m01.2.2.2.1 201 (by omega) (by omega), a201]; exact ⟨rfl, (hf i hi).2⟩) hg hm hrc c (by omega)
  rw [← hq] at x1
  have m02 : MFr S1 V0 := m01.tr x2.m98
  refine ⟨ui V0 1007 197 0, ?_, ?_, ?_, Rel.of ((rc4.mfr m02).move (fun k _ b => SameO.ui _ b) rfl rfl) (u2.net ?_ ?_ ?_ ?_ ?_ ?_ ?_ ?_) ⟨⟨?_, ?_⟩, ?_, ?_⟩⟩
  · unfold goM
    rw [← hU0, u1, ob_some]
    exact x1
  · rw [si_ui, if_neg (by omega), x2.2.1 _ _ (fun t => t.2), u6, hU0, si_ui, if_pos ⟨rfl, rfl⟩]
  · show al V0 = _
    exact m02.2.2.2.2.1
  · intro k _
    show ai V0 198 k = _
    rw [x3]
  · show EqB _ _ (ai V0 200)
    rw [x4]
    exact EqB.rf _ _
  · exact x2.2.2.1 207 (by unfold is98; omega)
  · exact x2.2.2.1 208 (by unfold is98; omega)
  · rw [si_ui, if_neg (by omega)]; exact x2.2.1 _ _ (fun t => t.2)
  · rw [si_ui, if_neg (by omega)]; exact x2.2.1 _ _ (fun t => t.2)
  · rw [si_ui, if_neg (by omega)]; exact x2.2.1 _ _ (fun t => t.2)
  · exact x2.1 _ _
  · rw [si_ui, if_neg (by omega), si_ui, if_neg (by omega), m02.2.1 903 0 (by omega), m02.2.2.1 1013 (by omega), z0 903 (by omega) (by omega), (s1 197 (by omega) (by omega) (by omega) (by omega) (by omega) (by omega)).1]
    exact rx.1.1
  · rw [si_ui, if_neg (by omega), si_ui, if_neg (by omega), m02.2.1 904 0 (by omega), m02.2.2.1 1014 (by omega), z0 904 (by omega) (by omega), (s1 197 (by omega) (by omega) (by omega) (by omega) (by omega) (by omega)).1]
    exact rx.1.2
  · refine ⟨0, by omega, ?_, ?_, fun i hi => by omega⟩
    · rw [si_ui, if_neg (by omega), m02.2.1 1 20 (by omega), hS1]
      exact k2
    · rw [si_ui, if_pos ⟨rfl, rfl⟩]; rfl
  · obtain ⟨k', o1, o2, o3, o4⟩ := rx.2.2
    refine ⟨k', o1, ?_, ?_, ?_⟩
    · rw [si_ui, if_neg (by omega), m02.2.1 1 22 (by omega), (s1 22 (by omega) (by omega) (by omega) (by omega) (by omega) (by omega)).1]; exact o2
    · rw [si_ui, if_neg (by omega), m02.2.2.1 1029 (by omega), (s1 197 (by omega) (by omega) (by omega) (by omega) (by omega) (by omega)).1]; exact o3
    · rw [ai_ui, m02.2.2.2.1 23 (by omega) (by omega), m02.2.2.2.1 209 (by omega) (by omega), (s1 23 (by omega) (by omega) (by omega) (by omega) (by omega) (by omega)).row, (s1 209 (by omega) (by omega) (by omega) (by omega) (by omega) (by omega)).row]; exact o4
end Go
