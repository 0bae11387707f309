section Nt
variable {F : Nat} {S : St} {f : Nat → Int32} {L n : Nat}
theorem nbK_le {p : Nat} (hp : p ≤ L) : p ≤ nbK f L p ∧ nbK f L p ≤ L := by
  have := fnd_sp (P := fun k => ¬ blB (byK f k)) (L - p) p
  unfold nbK
  exact ⟨this.1, by have := this.2.1; omega⟩
theorem weK_le {p : Nat} (hp : p ≤ L) : p ≤ weK f L p ∧ weK f L p ≤ L := by
  have := fnd_sp (P := fun k => ¬ letB (byK f k)) (L - p) p
  unfold weK
  exact ⟨this.1, by have := this.2.1; omega⟩
theorem deK_le {p : Nat} (hp : p ≤ L) : p ≤ deK f L p ∧ deK f L p ≤ L := by
  have := fnd_sp (P := fun k => ¬ digB (byK f k)) (L - p) p
  unfold deK
  exact ⟨this.1, by have := this.2.1; omega⟩
theorem tk_0 {s : Nat} (h : L ≤ s) : kdK f L s = 0 ∧ enK f L s = s := by
  unfold kdK enK
  exact ⟨if_pos h, if_pos h⟩
theorem tk_1 {s : Nat} (h : s < L) (a : letB (byK f s)) : kdK f L s = 1 ∧ enK f L s = weK f L s := by
  unfold kdK enK
  rw [if_neg (by omega), if_neg (by omega), pif_t a, pif_t a]
  exact ⟨rfl, rfl⟩
theorem tk_2 {s : Nat} (h : s < L) (a : ¬ letB (byK f s)) (b : digB (byK f s)) : kdK f L s = 2 ∧ enK f L s = deK f L s := by
  unfold kdK enK
  rw [if_neg (by omega), if_neg (by omega), pif_f a, pif_f a, pif_t b, pif_t b]
  exact ⟨rfl, rfl⟩
theorem tk_3 {s : Nat} (h : s < L) (a : ¬ letB (byK f s)) (b : ¬ digB (byK f s)) : kdK f L s = 3 ∧ enK f L s = s + 1 := by
  unfold kdK enK
  rw [if_neg (by omega), if_neg (by omega), pif_f a, pif_f a, pif_f b, pif_f b]
  exact ⟨rfl, rfl⟩
theorem enK_le {s : Nat} (h : s ≤ L) : s ≤ enK f L s ∧ enK f L s ≤ L := by
  by_cases z : L ≤ s
  · rw [(tk_0 z).2]; omega
  by_cases a : letB (byK f s)
  · rw [(tk_1 (by omega) a).2]; exact weK_le h
  by_cases b : digB (byK f s)
  · rw [(tk_2 (by omega) a b).2]; exact deK_le h
  · rw [(tk_3 (by omega) a b).2]; omega
theorem e_next (hx : FxF S) (hi : Inp S f L) (hn : 197 ≤ n) (h5 : sr S 500 n = some 20) {p : Nat} (hp : p ≤ L) (h4 : si S 504 n = nI p) (hF : 10000 ≤ F) : ∃ T, f_X6_nextToken F S n = some T ∧ PaF n S T ∧ TokC f L T n (nbK f L p) := by
  have hL := hi.1
  obtain ⟨S1, a1, a2, a3⟩ := e_skip (F := F) hn (L - p) p F S (by omega) (by omega) hx hi h5 h4
  have hx1 := a2.fx hn hx
  have i1 := a2.inp hn hi
  have s5 : sr S1 500 n = some 20 := (a2.2.1 500 (by omega)).trans h5
  obtain ⟨s1, s2⟩ := nbK_le (f := f) hp
  generalize nbK f L p = s at a3 s1 s2 ⊢
  unfold f_X6_nextToken
  rw [a1]
  unfold f_X6_nextToken_L44
  simp only [lt_eq]
  rw [a3]
  obtain ⟨S2, hS2⟩ : ∃ S2, S2 = ui (ul (ur (ui S1 505 n (nI s)) 508 n none) 507 n 0) 509 n 0 := ⟨_, rfl⟩
  rw [← hS2]
  have f2 : PaF n S1 S2 := by rw [hS2]; exact (((PaF.ui _ (by omega)).tr (PaF.ur _)).tr (PaF.ul _)).tr (PaF.ui _ (by omega))
  have hx2 := f2.fx hn hx1
  have i2 := f2.inp hn i1
  have t5 : sr S2 500 n = some 20 := (f2.2.1 500 (by omega)).trans s5
  have t4 : si S2 504 n = nI s := by rw [hS2, si_ui, if_neg (by omega)]; show si (ui S1 505 n (nI s)) 504 n = _; rw [si_ui, if_neg (by omega)]; exact a3
  have t505 : si S2 505 n = nI s := by rw [hS2, si_ui, if_neg (by omega)]; show si (ui S1 505 n (nI s)) 505 n = _; rw [si_ui, if_pos ⟨rfl, rfl⟩]
  have t7 : sl S2 507 n = 0 := by rw [hS2]; show sl (ul _ 507 n 0) 507 n = 0; rw [sl_ul, if_pos ⟨rfl, rfl⟩]
  have t8 : sr S2 508 n = none := by rw [hS2]; show sr (ur _ 508 n none) 508 n = none; rw [sr_ur, if_pos ⟨rfl, rfl⟩]
  have t9 : si S2 509 n = 0 := by rw [hS2, si_ui, if_pos ⟨rfl, rfl⟩]
  have f02 := a2.tr f2
  rw [t5, ob_some, t4]
  have en := enK_le (f := f) s2
  by_cases z : s < L
  rotate_left
  · have es : s = L := by omega
    have rd : f_X0_byteAt F S2 20 (nI s) = some (-1, S2) := by
      unfold f_X0_byteAt
      rw [if_neg (nI_pos (by omega)), i2.2.1, if_pos (nI_le (by omega) (by omega))]
    rw [rd, ob_some]
    simp only [lt_eq]
    rw [t5, ob_some, t4, i2.2.1, if_neg (nI_nlt (by omega) (by omega))]
    obtain ⟨k0, e0⟩ := tk_0 (f := f) (L := L) (s := s) (by omega)
    refine ⟨_, rfl, f02.tr (PaF.ui _ (by omega)), s2, en.2, ?_, ?_, ?_, fun y => by omega, fun _ => t8, fun y => by omega, fun y => by omega⟩
    · rw [si_ui, if_neg (by omega)]; exact t505
    · rw [si_ui, if_neg (by omega), e0]; exact t4
    · rw [si_ui, if_pos ⟨rfl, rfl⟩, k0]; rfl
  rw [in8 hx2 i2 z, ob_some]
  simp only [lt_eq]
  rw [t5, ob_some, t4, i2.2.1, if_pos (nI_lt z (by omega)), e_isLet, ob_some]
  simp only [lt_eq, eq_bI]
  by_cases a : letB (byK f s)
  · obtain ⟨k0, e0⟩ := tk_1 z a
    rw [if_pos (show 97 ≤ byK f s ∧ byK f s ≤ 122 from a)]
    unfold f_X6_readWord
    rw [lt_eq]
    obtain ⟨S3, hS3⟩ : ∃ S3, S3 = ui S2 506 n 1 := ⟨_, rfl⟩
    rw [← hS3]
    have f3 : PaF n S2 S3 := by rw [hS3]; exact PaF.ui _ (by omega)
    obtain ⟨T, p1, p2, p3, p4, p5, p6⟩ := e_rdWord (F := F) (f := f) (L := L) (s := s) hn hF (L - s) s F S3 (by omega) (by omega) (Nat.le_refl _) (f3.fx hn hx2) (f3.inp hn i2) (by rw [hS3]; exact t5) (by rw [hS3, si_ui, if_neg (by omega)]; exact t4) (by rw [hS3, Nat.sub_self]; exact t7) (by rw [hS3]; exact t8) (fun x a b => by omega)
    rw [p1, ob_some]
    refine ⟨T, rfl, (f02.tr f3).tr p2, s2, en.2, ?_, by rw [e0]; exact p3, ?_, fun _ => by rw [e0]; exact ⟨p4, p5⟩, fun y => absurd k0 y, fun y => by omega, fun y => by omega⟩
    · rw [p6 505 (by omega), hS3, si_ui, if_neg (by omega)]; exact t505
    · rw [p6 506 (by omega), hS3, si_ui, if_pos ⟨rfl, rfl⟩, k0]; rfl
  rw [if_neg (show ¬ (97 ≤ byK f s ∧ byK f s ≤ 122) from a), e_isDig, ob_some]
  simp only [lt_eq, eq_bI]
  by_cases b : digB (byK f s)
  · obtain ⟨k0, e0⟩ := tk_2 z a b
    rw [if_pos b]
    unfold f_X6_readNumber
    rw [lt_eq]
    obtain ⟨S3, hS3⟩ : ∃ S3, S3 = ui S2 506 n 2 := ⟨_, rfl⟩
    rw [← hS3]
    have f3 : PaF n S2 S3 := by rw [hS3]; exact PaF.ui _ (by omega)
    obtain ⟨T, p1, p2, p3, p4, p5, p6⟩ := e_rdNum (F := F) (f := f) (L := L) (s := s) hn hF (L - s) s F S3 (by omega) (by omega) (Nat.le_refl _) (f3.fx hn hx2) (f3.inp hn i2) (by rw [hS3]; exact t5) (by rw [hS3, si_ui, if_neg (by omega)]; exact t4) (by rw [hS3, si_ui, if_neg (by omega), Nat.sub_self]; exact t9)
    rw [p1, ob_some]
    refine ⟨T, rfl, (f02.tr f3).tr p2, s2, en.2, ?_, by rw [e0]; exact p3, ?_, fun y => by omega, fun _ => by rw [p5, hS3]; exact t8, fun _ => by rw [e0]; exact p4, fun y => by omega⟩
    · rw [p6 505 (by omega) (by omega), hS3, si_ui, if_neg (by omega)]; exact t505
    · rw [p6 506 (by omega) (by omega), hS3, si_ui, if_pos ⟨rfl, rfl⟩, k0]; rfl
  · obtain ⟨k0, e0⟩ := tk_3 z a b
    rw [if_neg b]
    have m4 : si (ui (ui S2 506 n 3) 509 n (byK f s)) 504 n = nI s := by rw [si_ui, if_neg (by omega), si_ui, if_neg (by omega)]; exact t4
    rw [m4, nI_1]
    refine ⟨_, rfl, ((f02.tr (PaF.ui _ (by omega))).tr (PaF.ui _ (by omega))).tr (PaF.ui _ (by omega)), s2, en.2, ?_, ?_, ?_, fun y => by omega, fun _ => t8, fun y => by omega, fun _ => ?_⟩
    · rw [si_ui, if_neg (by omega), si_ui, if_neg (by omega), si_ui, if_neg (by omega)]; exact t505
    · rw [si_ui, if_pos ⟨rfl, rfl⟩, e0]
    · rw [si_ui, if_neg (by omega), si_ui, if_neg (by omega), si_ui, if_pos ⟨rfl, rfl⟩, k0]; rfl
    · rw [si_ui, if_neg (by omega), si_ui, if_pos ⟨rfl, rfl⟩]
end Nt
