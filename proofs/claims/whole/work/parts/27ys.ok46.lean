/-! days pass: both sides, and the call -/
noncomputable def dysN (L : (Nat → Int32) → Int32 → Int32 → Nat → Int32) (B N : Nat → Int32) (i : Nat) : (Nat → Int32) × Nat := runN (fun _ a => ((dyN L B a.1).1, a.2 + (dyN L B a.1).2)) i 0 (N, 0)
section Dys
variable {F : Nat} {S : St} {n p : Nat} {N B : Nat → Int32} {L : (Nat → Int32) → Int32 → Int32 → Nat → Int32}
theorem dysN_0 : dysN L B N 0 = (N, 0) := rfl
theorem dysN_s {i : Nat} : dysN L B N (i + 1) = ((dyN L B (dysN L B N i).1).1, (dysN L B N i).2 + (dyN L B (dysN L B N i).1).2) := by
  unfold dysN
  rw [runN_s]
theorem dyN_lo (hL : isLg L) (b8 : kN N 8 ≤ 480) (b4 : kN N 4 ≤ 10) (b7 : kN N 7 ≤ 120) {k : Nat} (h : k < 1171) (h9 : ¬ k = 9) (h2 : ¬ k = 2) : (dyN L B N).1 k = N k := by
  have k7 : kN (dayN N) 7 = kN N 7 := dayN_k (by omega)
  have k8 : kN (dayN N) 8 = kN N 8 := dayN_k (by omega)
  have k4 : kN (dayN N) 4 = kN N 4 := dayN_k (by omega)
  have s := lvS_all (N0 := dayN N) (B := B) (D := kN N 2 + 1) hL (by omega) (by omega) (by omega) (kN N 7) (by omega)
  unfold dyN
  rw [rdN_lo hL (by rw [s.kn (by omega) (by omega)]; omega) (by omega) h9 (by unfold xI; omega), s.nums h h9, dayN_n h2]
theorem dyN_2 (hL : isLg L) (b8 : kN N 8 ≤ 480) (b4 : kN N 4 ≤ 10) (b7 : kN N 7 ≤ 120) (h : kN N 2 < 22000) : (dyN L B N).1 2 = nI (kN N 2 + 1) ∧ kN (dyN L B N).1 2 = kN N 2 + 1 := by
  have k7 : kN (dayN N) 7 = kN N 7 := dayN_k (by omega)
  have k8 : kN (dayN N) 8 = kN N 8 := dayN_k (by omega)
  have k4 : kN (dayN N) 4 = kN N 4 := dayN_k (by omega)
  have s := lvS_all (N0 := dayN N) (B := B) (D := kN N 2 + 1) hL (by omega) (by omega) (by omega) (kN N 7) (by omega)
  have e : (dyN L B N).1 2 = dayN N 2 := by
    unfold dyN
    rw [rdN_lo hL (by rw [s.kn (by omega) (by omega)]; omega) (by omega) (by omega) (by unfold xI; omega), s.nums (by omega) (by omega)]
  refine ⟨e.trans (upd_e N 2 _), ?_⟩
  unfold kN
  rw [e]
  exact (dayN_2 h).2
/-- on the way every spool is one -/
theorem Cl.dys (g : Cl S n p N B) (hp : 27 ≤ p ∧ p + 20 < 212) (hs : SpF S p) (P : Pln S p N (kN N 2)) {K : Nat} (h : kN N 2 + K ≤ 22000) (hd : p = 48 ∨ kN N 2 + K ≤ 20000) : ∀ i, i ≤ K → ∃ T, Cl T n p (dysN lgN B N i).1 B ∧ SpF T p ∧ Pln T p (dysN lgN B N i).1 (kN N 2 + i) ∧ kN (dysN lgN B N i).1 2 = kN N 2 + i := by
  intro i
  induction i with
  | zero => intro _; exact ⟨S, g, hs, P, rfl⟩
  | succ i ih =>
    intro hi
    obtain ⟨T, t1, t2, t3, t4⟩ := ih (by omega)
    have w := t1.c0.wb
    obtain ⟨T', q1, q2, q3, q4⟩ := e_beginDay (F := 1000) t1 hp t2 (by rw [t4]; exact t3) (by omega) (by omega) (by omega)
    rw [dysN_s]
    have e := (dyN_2 (B := B) isLg_lg w.n8.2 w.n4.2 w.n7.2 (by omega : kN (dysN lgN B N i).1 2 < 22000)).2
    exact ⟨T', q2, t2.frm q3.2.1 q3.2.2, by rw [t4] at q4; exact q4, by rw [e, t4]; omega⟩
end Dys
section Adv
variable {F : Nat} {S : St} {n : Nat} {N B : Nat → Int32}
theorem BdF.fx {T : St} (f : BdF S T 27) (hx : FxF S) : FxF T := hx.agr (fun g i _ _ => f.2.1 g i) (fun i _ => by rw [f.2.2]) (f.1 69 (by omega)).2.2.2.2.1
theorem e_days (g : Cl S n 27 N B) (hx : FxF S) (P : Pln S 27 N (kN N 2)) {K : Nat} (hd : kN N 2 + K ≤ 20000) (hF : 100000 ≤ F) : ∃ T, f_X10_advance_L64 F F S 0 (nI K) 0 0 = some (.inr (nI (dysN lgN B N K).2), T) ∧ Cl T n 27 (dysN lgN B N K).1 B ∧ BdF S T 27 := by
  have loop : ∀ d i fu T, i + d = K → d < fu → Cl T n 27 (dysN lgN B N i).1 B → Pln T 27 (dysN lgN B N i).1 (kN N 2 + i) → kN (dysN lgN B N i).1 2 = kN N 2 + i → BdF S T 27 → ∃ T', f_X10_advance_L64 F fu T 0 (nI K) (nI (dysN lgN B N i).2) (nI i) = some (.inr (nI (dysN lgN B N K).2), T') ∧ Cl T' n 27 (dysN lgN B N K).1 B ∧ BdF S T' 27 := by
    intro d
    induction d with
    | zero =>
      intro i fu T hi hfu m1 m2 m3 m4
      obtain ⟨fu, rfl⟩ : ∃ f', fu = f' + 1 := ⟨fu - 1, by omega⟩
      have : i = K := by omega
      subst this
      refine ⟨T, ?_, m1, m4⟩
      unfold f_X10_advance_L64
      rw [if_pos (nI_le (Nat.le_refl _) (by omega))]
    | succ d ih =>
      intro i fu T hi hfu m1 m2 m3 m4
      obtain ⟨fu, rfl⟩ : ∃ f', fu = f' + 1 := ⟨fu - 1, by omega⟩
      have hxT := m4.fx hx
      have w := m1.c0.wb
      obtain ⟨T1, q1, q2, q3, q4⟩ := e_beginDay (F := F) m1 (by omega) hxT.sp27 (by rw [m3]; exact m2) (by omega) (by omega) (by omega)
      have e := (dyN_2 (B := B) isLg_lg w.n8.2 w.n4.2 w.n7.2 (by omega : kN (dysN lgN B N i).1 2 < 22000)).2
      rw [m3] at q4
      obtain ⟨T', r1, r2⟩ := ih (i + 1) fu T1 (by omega) (by omega) (by rw [dysN_s]; exact q2) (by rw [dysN_s]; exact q4) (by rw [dysN_s, e, m3]; omega) (m4.tr q3)
      refine ⟨T', ?_, r2⟩
      rw [← r1]
      conv => lhs; unfold f_X10_advance_L64
      rw [if_neg (nI_ge (by omega) (by omega)), hxT.r905_0, ob_some, q1, ob_some, nI_1]
      simp only [lt_eq]
      rw [nI_add, dysN_s]
  exact loop K 0 F S (by omega) (by omega) g P rfl (BdF.rf S 27)
theorem m_days (hx : FxF S) (ht : si S 1005 197 = 0) (hB : ai S 200 = B) (hN : ai S 198 = N) {K : Nat} (hK : K ≤ 1000) (hC : ∀ i, i ≤ K → ∃ T, Cl T n 27 (dysN lgN B N i).1 B ∧ SpF T 27) (hd : ∀ i, i ≤ K → kN (dysN lgN B N i).1 2 = kN N 2 + i) (h2 : kN N 2 + K ≤ 20000) (hF : 100000 ≤ F) : ∃ T, f_X11_advance_L48 F F S 197 (nI K) 0 0 = some (nI (dysN lgN B N K).2, T) ∧ LvM S T ∧ ai T 198 = (dysN lgN B N K).1 := by
  have loop : ∀ d i fu T, i + d = K → d < fu → LvM S T → ai T 198 = (dysN lgN B N i).1 → ∃ T', f_X11_advance_L48 F fu T 197 (nI K) (nI (dysN lgN B N i).2) (nI i) = some (nI (dysN lgN B N K).2, T') ∧ LvM S T' ∧ ai T' 198 = (dysN lgN B N K).1 := by
    intro d
    induction d with
    | zero =>
      intro i fu T hi hfu m1 m2
      obtain ⟨fu, rfl⟩ : ∃ f', fu = f' + 1 := ⟨fu - 1, by omega⟩
      have : i = K := by omega
      subst this
      refine ⟨T, ?_, m1, m2⟩
      unfold f_X11_advance_L48
      rw [if_pos (nI_le (Nat.le_refl _) (by omega))]
    | succ d ih =>
      intro i fu T hi hfu m1 m2
      obtain ⟨fu, rfl⟩ : ∃ f', fu = f' + 1 := ⟨fu - 1, by omega⟩
      have hxT := m1.fx hx
      obtain ⟨V, g, sV⟩ := hC i (by omega)
      have w := g.c0.wb
      have k2 := hd i (by omega)
      have lt2 : kN (dysN lgN B N i).1 2 < 22000 := by omega
      have gd := g.day (by omega) lt2 (Or.inr (by omega))
      have sd : SpF (ui V 701 27 (nI (kN (dysN lgN B N i).1 2 + 1))) 27 := sV.frm (fun _ _ => rfl) rfl
      have hW := Cl.lvw (by omega) sd gd (kN (dysN lgN B N i).1 2 + 1)
      obtain ⟨V2, y1, -, -⟩ := Cl.lvn (D := kN (dysN lgN B N i).1 2 + 1) (by omega) sd gd (kN (dayN (dysN lgN B N i).1) 7) (Nat.le_refl _)
      have k7 : kN (dayN (dysN lgN B N i).1) 7 = kN (dysN lgN B N i).1 7 := dayN_k (by omega)
      rw [k7] at y1
      obtain ⟨T1, q1, q2, q3⟩ := m_passDay0 (F := F) (S := T) (B := B) hxT ((m1.1.1.2.2.1 1005 (by omega)).trans ht) (m1.1.2.1.trans hB) (by rw [m2]; exact w) (by rw [m2]; exact lt2) (by rw [m2]; exact hW) (by rw [m2]; exact y1.c0.wf) (by omega)
      rw [m2] at q1 q3
      obtain ⟨T', r1, r2⟩ := ih (i + 1) fu T1 (by omega) (by omega) (m1.tr q2) (by rw [q3, dysN_s])
      refine ⟨T', ?_, r2⟩
      rw [← r1]
      conv => lhs; unfold f_X11_advance_L48
      rw [if_neg (nI_ge (by omega) (by omega)), q1, ob_some, nI_1]
      simp only [lt_eq]
      rw [nI_add, dysN_s]
  exact loop K 0 F S (by omega) (by omega) (LvM.rf S) hN
theorem sum64 {d k : Nat} (hd : d ≤ 22000) (hk : k ≤ 22000) : (nI d).toInt64 + (nI k).toInt64 = (nI (d + k)).toInt64 := by
  apply Int64.toInt_inj.mp
  rw [Int64.toInt_add, Int32.toInt_toInt64, Int32.toInt_toInt64, Int32.toInt_toInt64, nI_toInt (by omega), nI_toInt (by omega), nI_toInt (by omega), Int.bmod_def]
  split <;> omega
end Adv
