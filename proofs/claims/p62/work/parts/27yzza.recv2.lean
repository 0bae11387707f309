/-! the class takes a message in -/
theorem rest_tb {a b i : Nat} (hi : i < 10) : (a &&& (1023 ^^^ b)).testBit i = (a.testBit i && !b.testBit i) := by
  have e : (1023 : Nat).testBit i = true := by
    rw [show 1023 = 2 ^ 10 - 1 from rfl, Nat.testBit_two_pow_sub_one]
    exact decide_eq_true hi
  rw [Nat.testBit_and, Nat.testBit_xor, e]
  simp
theorem tb_hi {a i : Nat} (ha : a < 1024) (hi : ¬ i < 10) : a.testBit i = false := Nat.testBit_lt_two_pow (Nat.lt_of_lt_of_le ha (show 2 ^ 10 ≤ 2 ^ i from Nat.pow_le_pow_right (by omega) (by omega)))
theorem rest_ex {rec b : Nat} (hr : rec < 1024) (hb : b < 1024) (sub : ∀ u, u < 10 → b.testBit u = true → rec.testBit u = true) (ne : ¬ b = rec) : ∃ u, u < 10 ∧ (rec &&& (1023 ^^^ b)).testBit u = true := by
  apply Classical.byContradiction
  intro h
  apply ne
  apply Nat.eq_of_testBit_eq
  intro i
  by_cases z : i < 10
  · have h1 : ¬ (rec &&& (1023 ^^^ b)).testBit i = true := fun y => h ⟨i, z, y⟩
    rw [rest_tb z] at h1
    have h2 := sub i z
    cases e1 : b.testBit i <;> cases e2 : rec.testBit i
    · rfl
    · rw [e1, e2] at h1; exact absurd rfl h1
    · exact absurd (h2 e1) (by rw [e2]; decide)
    · rfl
  · rw [tb_hi hr z, tb_hi hb z]
/-- the net after the bounces -/
noncomputable def bN (N : Nat → Int32) (rec sz : Nat) : Nat := (bnN (bnP N rec sz) N (kN N 4)).2
noncomputable def b10 (N : Nat → Int32) (rec sz : Nat) : Nat → Int32 := upd (bnN (bnP N rec sz) N (kN N 4)).1 10 (nI (bN N rec sz))
noncomputable def afN (N B f : Nat → Int32) (L sn rec : Nat) (c : Int32) : Nat → Int32 :=
  if bN N rec (szC f L (kC f L)) = rec then b10 N rec (szC f L (kC f L))
  else lgN (nwN (kN N 7) sn f L (b10 N rec (szC f L (kC f L))) B (fun u => (rec &&& (1023 ^^^ bN N rec (szC f L (kC f L)))).testBit u = true) (fun u => if c = -1 then b10 N rec (szC f L (kC f L)) (83 + 8 * u) else c)) 1 (nI (kN N 7))
noncomputable def afB (N B f : Nat → Int32) (L rec : Nat) : Nat → Int32 :=
  if bN N rec (szC f L (kC f L)) = rec then B else (ptN (kN N 7) f L (b10 N rec (szC f L (kC f L))) B (kC f L)).2
section Rv2
variable {F : Nat} {S : St} {f N B : Nat → Int32} {L n : Nat}
theorem b10_n {rec sz k : Nat} (a : k < 6211) (b : ¬ k = 9) (c : ¬ k = 10) : b10 N rec sz k = N k := by
  unfold b10
  rw [upd_n c]
  exact bn_c _ k a b
theorem e_receive {sn rec : Nat} {c : Int32} (g : Cl S n 27 N B) (hx : FxF S) (hi : Inp S f L) (hc : Cut S f L) (hg : gdC f L) (hn : 197 ≤ n) (hm : kN N 7 < 120) (hsn : sn ≤ 10) (hrc : rec < 1024) (hru : ∀ u, rec.testBit u = true → u < kN N 4) (hcl : c = -1 ∨ ∃ cc, c = nI cc ∧ cc < kN N 3) (hF : 10000 ≤ F) :
    ∃ T nT, f_X8_receive F S n 27 24 (nI sn) (nI rec) c = some (if bN N rec (szC f L (kC f L)) = rec then -2 else nI (kN N 7), T, nT) ∧ n ≤ nT ∧ Cl T nT 27 (afN N B f L sn rec c) (afB N B f L rec) ∧
      (∀ k, k < n → ¬ (27 ≤ k ∧ k ≤ 47) → SameO S T k) ∧ (∀ g k, k < n → sr T g k = sr S g k) ∧ (∀ k, k < n → ln T k = ln S k) ∧ (bN N rec (szC f L (kC f L)) = rec → ar T 29 = ar S 29) ∧ (¬ bN N rec (szC f L (kC f L)) = rec → ar T 29 (kN N 7) = some n ∧ ∀ x, ¬ x = kN N 7 → ar T 29 x = ar S 29 x) := by
  have wb := g.c0.wb
  have b4 := wb.n4.2
  obtain ⟨T1, t1, t2, t3, t4, t5⟩ := e_bounce (F := F) (r := rec) (sz := szC f L (kC f L)) g hx.sp27 hrc (by omega)
  obtain ⟨bl, bb⟩ := bn_b (N := N) (P := bnP N rec (szC f L (kC f L))) (kN N 4) b4
  obtain ⟨b2, hb2⟩ : ∃ b2, b2 = bN N rec (szC f L (kC f L)) := ⟨_, rfl⟩
  have hb2' : (bnN (bnP N rec (szC f L (kC f L))) N (kN N 4)).2 = b2 := by rw [hb2]; rfl
  rw [hb2'] at t1 bl bb
  obtain ⟨T2, hT2⟩ : ∃ T2, T2 = ui T1 702 27 (nI b2) := ⟨_, rfl⟩
  have C2 : Cl T2 n 27 (b10 N rec (szC f L (kC f L))) B := by
    rw [hT2]
    unfold b10
    rw [← hb2]
    exact t2.ten _
  have s2 : ∀ k, ¬ k = 27 → ¬ (40 ≤ k ∧ k ≤ 43) → SameO S T2 k := fun k a b => by rw [hT2]; exact (t3 k b).tr (SameO.ui _ a)
  have sr2 : ∀ g k, sr T2 g k = sr S g k := fun g k => by rw [hT2]; exact t4 g k
  have ln2 : ln T2 = ln S := by rw [hT2]; exact t5
  have x2 : FxF T2 := hx.agr (fun f i _ _ => sr2 f i) (fun i _ => by rw [ln2]) (s2 69 (by omega) (by omega)).2.2.2.2.1
  have i2 : Inp T2 f L := ⟨hi.1, ((s2 20 (by omega) (by omega)).1 1).trans hi.2.1, fun i h => by rw [(s2 21 (by omega) (by omega)).row]; exact hi.2.2 i h⟩
  have c2 : Cut T2 f L := ⟨((s2 24 (by omega) (by omega)).1 103).trans hc.1, fun j hj => by rw [(s2 25 (by omega) (by omega)).row, (s2 26 (by omega) (by omega)).row]; exact hc.2 j hj⟩
  have v702 : si T2 702 27 = nI b2 := by rw [hT2, si_ui, if_pos ⟨rfl, rfl⟩]
  have eqb : nI b2 = nI rec ↔ b2 = rec := nI_eq (by omega) (by omega)
  have kk : ∀ k, k < 6211 → ¬ k = 9 → ¬ k = 10 → kN (b10 N rec (szC f L (kC f L))) k = kN N k := fun k a b c => by unfold kN; rw [b10_n a b c]
  have head : f_X8_receive F S n 27 24 (nI sn) (nI rec) c = if ¬ nI b2 = nI rec then (lt (si T2 705 27) fun x243 => lt (nob T2 n) fun S247 => lt (n + 1) fun n248 =>
      Option.bind (f_X1_sizeOfAll F S247 24) fun z250 => lt z250.1 fun r252 => lt z250.2 fun S251 =>
      Option.bind (f_X4_init F S251 n248 n (nI sn) (si S247 701 27) r252 (si S251 103 24)) fun z254 => lt z254.1 fun S255 => lt z254.2 fun n257 => plG F 27 (nI rec) c x243 n 0 S255 n257) else some (-2, T2, n) := by
    unfold f_X8_receive
    rw [e_sizeOfAll hx hc hg (by omega), ob_some, lt_eq, lt_eq, t1, ob_some, lt_eq, lt_eq, ← hT2, lt_eq, v702]
    rfl
  rw [head]
  unfold afN afB
  rw [← hb2]
  by_cases z : b2 = rec
  · rw [if_neg (fun y => y (eqb.mpr z)), if_pos z, if_pos z, if_pos z]
    exact ⟨T2, n, rfl, Nat.le_refl _, C2, fun k _ a => s2 k (by omega) (by omega), fun g k _ => sr2 g k, fun k _ => by rw [ln2], fun _ => (s2 29 (by omega) (by omega)).2.2.2.2.1, fun y => absurd z y⟩
  · rw [if_pos (fun y => z (eqb.mp y)), if_neg z, if_neg z, if_neg z, lt_eq, C2.c0.s705, kk 7 (by omega) (by omega) (by omega)]
    have sub : ∀ u, u < 10 → b2.testBit u = true → rec.testBit u = true := fun u hu y => ((bb u hu).mp y).2.1
    obtain ⟨u0, u1, u2⟩ := rest_ex hrc bl sub z
    have hrn : ∀ u, (rec &&& (1023 ^^^ b2)).testBit u = true → u < kN (b10 N rec (szC f L (kC f L))) 4 := fun u y => by
      rw [kk 4 (by omega) (by omega) (by omega)]
      rw [Nat.testBit_and] at y
      exact hru u (by cases e : rec.testBit u; rw [e] at y; cases y; rfl)
    obtain ⟨T, nT, p1, p2, p3, p4, p5, p6, p7, p8⟩ := e_stored (F := F) (m := kN N 7) (rb := rec &&& (1023 ^^^ b2)) C2 x2 i2 c2 hg hn hm (kk 7 (by omega) (by omega) (by omega)) hsn v702 hrc rfl ⟨u0, hrn u0 u2, u2⟩ hrn (by rw [kk 3 (by omega) (by omega) (by omega)]; exact hcl) hF
    exact ⟨T, nT, p1, p2, p3, fun k h a => (s2 k (by omega) (by omega)).tr (p4 k h a), fun g k h => (p5 g k h).trans (sr2 g k), fun k h => by rw [p6 k h, ln2], fun y => absurd y z, fun _ => ⟨p7, fun x hx => by rw [p8 x hx, (s2 29 (by omega) (by omega)).2.2.2.2.1]⟩⟩
end Rv2
