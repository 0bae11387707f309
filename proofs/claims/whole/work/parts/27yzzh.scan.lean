/-! the next token: the model -/
def scM (g : Nat) : Prop := 1009 ≤ g ∧ g ≤ 1012
def noA (_ : Nat) : Prop := False
/-- the model's input -/
def InM (S : St) (f : Nat → Int32) (L : Nat) : Prop := L ≤ 1200 ∧ si S 1008 197 = nI L ∧ ∀ i, i < L → ai S 201 i = f i ∧ (f i).toInt8.toInt32 = f i
def numK (f : Nat → Int32) (s c : Nat) : Int32 := runN (fun k v => if 10 * v + byK f (s + k) - 48 < 999999 then 10 * v + byK f (s + k) - 48 else 999999) c 0 0
def TokM (f : Nat → Int32) (L : Nat) (S : St) (s : Nat) : Prop := s ≤ L ∧ enK f L s ≤ L ∧ si S 1010 197 = nI s ∧ si S 1009 197 = nI (enK f L s) ∧ si S 1011 197 = nI (kdK f L s) ∧ (kdK f L s = 2 → si S 1012 197 = numK f s (enK f L s - s)) ∧ (kdK f L s = 3 → si S 1012 197 = byK f s)
section Sm
variable {F : Nat} {S : St} {f : Nat → Int32} {L : Nat}
theorem InM.fr {T : St} (i : InM S f L) (h : Mf scM noA S T) : InM T f L := ⟨i.1, (h.2.1 1008 197 (fun z => by have := z.2; unfold scM at this; omega)).trans i.2.1, fun k hk => by rw [h.2.2.1 201 (fun z => z)]; exact i.2.2 k hk⟩
theorem by_rng {a : Int32} (h : a.toInt8.toInt32 = a) : ¬ a &&& 255 = -1 := by
  obtain ⟨n, n1, n2⟩ := i8_ex a h
  rw [n2]
  exact (show ∀ n, n < 256 → ¬ (Int8.ofNat n).toInt32 &&& 255 = -1 by decide +kernel) n n1
theorem m_byt (hx : FxF S) (i : InM S f L) {k : Nat} (hk : k < L) : f_X11_byteAt F S 197 (nI k) = some (byK f k, S) := by
  have hL := i.1
  unfold f_X11_byteAt
  rw [i.2.1, if_neg (nI_ge hk (by omega)), hx.r1006_197, ob_some, hx.l201, cki_nI (by omega) (by omega), nI_clamp (by omega), (i.2.2 k hk).1]
  rfl
theorem m_byteE (i : InM S f L) {k : Nat} (hk : L ≤ k) (hk2 : k < 2 ^ 31) : f_X11_byteAt F S 197 (nI k) = some (-1, S) := by
  unfold f_X11_byteAt
  rw [i.2.1, if_pos (nI_le hk hk2)]
theorem m_let (F : Nat) (S : St) (b : Int32) : f_X11_in F S b.toInt64 97 122 = some (bI (97 ≤ b ∧ b ≤ 122), S) := e_in F S b 97 122
theorem m_dig (F : Nat) (S : St) (b : Int32) : f_X11_in F S b.toInt64 48 57 = some (bI (digB b), S) := e_in F S b 48 57
theorem m_skip {d : Nat} : ∀ p fu S, p + d = L → d < fu → FxF S → InM S f L → si S 1009 197 = nI p → ∃ T, (nbK f L p < L → ∃ fu', f_X11_scan_L0 F fu S 197 = f_X11_scan_L0 F (fu' + 1) T 197) ∧ (¬ nbK f L p < L → ∃ fu', f_X11_scan_L0 F fu S 197 = f_X11_scan_L0 F (fu' + 1) T 197) ∧ Mf scM noA S T ∧ si T 1009 197 = nI (nbK f L p) := by
  induction d with
  | zero =>
    intro p fu S hp hfu hx i h9
    have e : nbK f L p = p := by unfold nbK; rw [show L - p = 0 by omega]; rfl
    exact ⟨S, fun _ => ⟨fu - 1, by rw [show fu - 1 + 1 = fu by omega]⟩, fun _ => ⟨fu - 1, by rw [show fu - 1 + 1 = fu by omega]⟩, Mf.rf S, by rw [e]; exact h9⟩
  | succ d ih =>
    intro p fu S hp hfu hx i h9
    obtain ⟨fu, rfl⟩ : ∃ f', fu = f' + 1 := ⟨fu - 1, by omega⟩
    have hL := i.1
    have e : nbK f L p = pif (¬ blB (byK f p)) p (nbK f L (p + 1)) := by
      unfold nbK
      rw [show L - p = (L - (p + 1)) + 1 by omega, fnd_s]
    by_cases z : blB (byK f p)
    · have fr : Mf scM noA S (ui S 1009 197 (nI (p + 1))) := Mf.ui _ (by unfold scM; omega)
      obtain ⟨T, t1, t2, t3, t4⟩ := ih (p + 1) fu (ui S 1009 197 (nI (p + 1))) (by omega) (by omega) (fr.fx hx) (i.fr fr) (by rw [si_ui, if_pos ⟨rfl, rfl⟩])
      have step : f_X11_scan_L0 F (fu + 1) S 197 = f_X11_scan_L0 F fu (ui S 1009 197 (nI (p + 1))) 197 := by
        conv => lhs; unfold f_X11_scan_L0
        unfold f_X11_scan_L26
        rw [h9, m_byt hx i (by omega), ob_some]
        simp only [lt_eq]
        rcases z with z | z
        · rw [if_pos z, h9, nI_1]
        · rw [if_neg (by rw [z]; decide), h9, m_byt hx i (by omega), ob_some]
          simp only [lt_eq]
          rw [if_neg (fun y => y z), h9, nI_1]
      rw [step, e, pif_f (fun y => y z)]
      exact ⟨T, t1, t2, fr.tr t3, t4⟩
    · rw [e, pif_t z]
      exact ⟨S, fun _ => ⟨fu, rfl⟩, fun _ => ⟨fu, rfl⟩, Mf.rf S, h9⟩
theorem m_rdWord {d : Nat} : ∀ p fu S, p + d = L → d < fu → FxF S → InM S f L → si S 1009 197 = nI p → ∃ T, f_X11_scan_L83 F fu S 197 = some T ∧ Mf scM noA S T ∧ si T 1009 197 = nI (weK f L p) ∧ si T 1011 197 = 1 ∧ si T 1010 197 = si S 1010 197 := by
  induction d with
  | zero =>
    intro p fu S hp hfu hx i h9
    obtain ⟨fu, rfl⟩ : ∃ f', fu = f' + 1 := ⟨fu - 1, by omega⟩
    have hL := i.1
    have e : weK f L p = p := by unfold weK; rw [show L - p = 0 by omega]; rfl
    rw [e]
    refine ⟨ui S 1011 197 1, ?_, Mf.ui _ (by unfold scM; omega), by rw [si_ui, if_neg (by omega)]; exact h9, by rw [si_ui, if_pos ⟨rfl, rfl⟩], by rw [si_ui, if_neg (by omega)]⟩
    unfold f_X11_scan_L83
    rw [h9, m_byteE i (by omega) (by omega), ob_some]
    simp only [lt_eq]
    rw [m_let, ob_some]
    simp only [lt_eq]
    rw [bI_f (by decide), if_pos rfl]
  | succ d ih =>
    intro p fu S hp hfu hx i h9
    obtain ⟨fu, rfl⟩ : ∃ f', fu = f' + 1 := ⟨fu - 1, by omega⟩
    have hL := i.1
    have e : weK f L p = pif (¬ letB (byK f p)) p (weK f L (p + 1)) := by
      unfold weK
      rw [show L - p = (L - (p + 1)) + 1 by omega, fnd_s]
    unfold f_X11_scan_L83
    rw [h9, m_byt hx i (by omega), ob_some]
    simp only [lt_eq]
    rw [m_let, ob_some]
    simp only [lt_eq, eq_bI]
    by_cases z : letB (byK f p)
    · rw [if_pos (show 97 ≤ byK f p ∧ byK f p ≤ 122 from z), h9, nI_1, e, pif_f (fun y => y z)]
      have fr : Mf scM noA S (ui S 1009 197 (nI (p + 1))) := Mf.ui _ (by unfold scM; omega)
      obtain ⟨T, t1, t2, t3, t4, t5⟩ := ih (p + 1) fu (ui S 1009 197 (nI (p + 1))) (by omega) (by omega) (fr.fx hx) (i.fr fr) (by rw [si_ui, if_pos ⟨rfl, rfl⟩])
      exact ⟨T, t1, fr.tr t2, t3, t4, t5.trans (by rw [si_ui, if_neg (by omega)])⟩
    · rw [if_neg (show ¬ (97 ≤ byK f p ∧ byK f p ≤ 122) from z), e, pif_t z]
      exact ⟨ui S 1011 197 1, rfl, Mf.ui _ (by unfold scM; omega), by rw [si_ui, if_neg (by omega)]; exact h9, by rw [si_ui, if_pos ⟨rfl, rfl⟩], by rw [si_ui, if_neg (by omega)]⟩
theorem m_rdNum {d s : Nat} : ∀ p fu S, p + d = L → d < fu → s ≤ p → FxF S → InM S f L → si S 1009 197 = nI p → si S 1012 197 = numK f s (p - s) → ∃ T, f_X11_scan_L144 F fu S 197 = some T ∧ Mf scM noA S T ∧ si T 1009 197 = nI (deK f L p) ∧ si T 1011 197 = 2 ∧ si T 1012 197 = numK f s (deK f L p - s) ∧ si T 1010 197 = si S 1010 197 := by
  induction d with
  | zero =>
    intro p fu S hp hfu hsp hx i h9 h12
    obtain ⟨fu, rfl⟩ : ∃ f', fu = f' + 1 := ⟨fu - 1, by omega⟩
    have hL := i.1
    have e : deK f L p = p := by unfold deK; rw [show L - p = 0 by omega]; rfl
    rw [e]
    refine ⟨ui S 1011 197 2, ?_, Mf.ui _ (by unfold scM; omega), by rw [si_ui, if_neg (by omega)]; exact h9, by rw [si_ui, if_pos ⟨rfl, rfl⟩], by rw [si_ui, if_neg (by omega)]; exact h12, by rw [si_ui, if_neg (by omega)]⟩
    unfold f_X11_scan_L144
    rw [h9, m_byteE i (by omega) (by omega), ob_some]
    simp only [lt_eq]
    rw [m_dig, ob_some]
    simp only [lt_eq]
    rw [bI_f (by decide), if_pos rfl]
  | succ d ih =>
    intro p fu S hp hfu hsp hx i h9 h12
    obtain ⟨fu, rfl⟩ : ∃ f', fu = f' + 1 := ⟨fu - 1, by omega⟩
    have hL := i.1
    have e : deK f L p = pif (¬ digB (byK f p)) p (deK f L (p + 1)) := by
      unfold deK
      rw [show L - p = (L - (p + 1)) + 1 by omega, fnd_s]
    have st : numK f s (p + 1 - s) = if 10 * numK f s (p - s) + byK f p - 48 < 999999 then 10 * numK f s (p - s) + byK f p - 48 else 999999 := by
      unfold numK
      rw [show p + 1 - s = (p - s) + 1 by omega, runN_s, Nat.zero_add, show s + (p - s) = p by omega]
    unfold f_X11_scan_L144
    rw [h9, m_byt hx i (by omega), ob_some]
    simp only [lt_eq]
    rw [m_dig, ob_some]
    simp only [lt_eq, eq_bI]
    by_cases z : digB (byK f p)
    · rw [if_pos z, h9, m_byt hx i (by omega), ob_some]
      simp only [lt_eq]
      rw [h12, ← st, e, pif_f (fun y => y z)]
      obtain ⟨S1, hS1⟩ : ∃ S1, S1 = ui (ui S 1012 197 (numK f s (p + 1 - s))) 1009 197 (nI (p + 1)) := ⟨_, rfl⟩
      have fr : Mf scM noA S S1 := by rw [hS1]; exact (Mf.ui _ (by unfold scM; omega)).tr (Mf.ui _ (by unfold scM; omega))
      have m9 : si (ui S 1012 197 (numK f s (p + 1 - s))) 1009 197 = nI p := by rw [si_ui, if_neg (by omega)]; exact h9
      rw [m9, nI_1, ← hS1]
      obtain ⟨T, t1, t2, t3, t4, t5, t6⟩ := ih (p + 1) fu S1 (by omega) (by omega) (by omega) (fr.fx hx) (i.fr fr) (by rw [hS1, si_ui, if_pos ⟨rfl, rfl⟩]) (by rw [hS1, si_ui, if_neg (by omega), si_ui, if_pos ⟨rfl, rfl⟩])
      exact ⟨T, t1, fr.tr t2, t3, t4, t5, t6.trans (by rw [hS1, si_ui, if_neg (by omega), si_ui, if_neg (by omega)])⟩
    · rw [if_neg z, e, pif_t z]
      exact ⟨ui S 1011 197 2, rfl, Mf.ui _ (by unfold scM; omega), by rw [si_ui, if_neg (by omega)]; exact h9, by rw [si_ui, if_pos ⟨rfl, rfl⟩], by rw [si_ui, if_neg (by omega)]; exact h12, by rw [si_ui, if_neg (by omega)]⟩
theorem m_scan (hx : FxF S) (i : InM S f L) {p : Nat} (hp : p ≤ L) (h9 : si S 1009 197 = nI p) (hF : 10000 ≤ F) : ∃ T, f_X11_scan F S 197 = some T ∧ Mf scM noA S T ∧ TokM f L T (nbK f L p) := by
  have hL := i.1
  obtain ⟨S1, a1, a1', a2, a3⟩ := m_skip (F := F) (d := L - p) p F S (by omega) (by omega) hx i h9
  have hx1 := a2.fx hx
  have i1 := i.fr a2
  obtain ⟨s1, s2⟩ := nbK_le (f := f) hp
  obtain ⟨-, -, -, nb⟩ := fnd_sp (P := fun k => ¬ blB (byK f k)) (L - p) p
  have nb' : nbK f L p < L → ¬ blB (byK f (nbK f L p)) := fun h => nb (by unfold nbK at h; omega)
  generalize nbK f L p = s at a1 a1' a3 s1 s2 nb' ⊢
  have en := enK_le (f := f) s2
  unfold f_X11_scan
  by_cases z : s < L
  rotate_left
  · obtain ⟨fu, hfu⟩ := a1' z
    obtain ⟨k0, e0⟩ := tk_0 (f := f) (L := L) (s := s) (by omega)
    obtain ⟨S2, hS2⟩ : ∃ S2, S2 = ui S1 1010 197 (nI s) := ⟨_, rfl⟩
    have f2 : Mf scM noA S1 S2 := by rw [hS2]; exact Mf.ui _ (by unfold scM; omega)
    have t9 : si S2 1009 197 = nI s := by rw [hS2, si_ui, if_neg (by omega)]; exact a3
    refine ⟨ui S2 1011 197 0, ?_, (a2.tr f2).tr (Mf.ui _ (by unfold scM; omega)), s2, en.2, ?_, ?_, ?_, fun y => by omega, fun y => by omega⟩
    · rw [hfu]
      unfold f_X11_scan_L0
      rw [a3, m_byteE i1 (by omega) (by omega), ob_some]
      simp only [lt_eq]
      rw [if_neg (by decide), a3, m_byteE i1 (by omega) (by omega), ob_some]
      simp only [lt_eq]
      rw [if_pos (by decide), a3, ← hS2, t9, m_byteE (i1.fr f2) (by omega) (by omega), ob_some]
      simp only [lt_eq]
      rw [if_neg (fun y => y True.intro)]
    · rw [si_ui, if_neg (by omega), hS2, si_ui, if_pos ⟨rfl, rfl⟩]
    · rw [si_ui, if_neg (by omega), e0]; exact t9
    · rw [si_ui, if_pos ⟨rfl, rfl⟩, k0]; rfl
  obtain ⟨fu, hfu⟩ := a1 z
  have nbl := nb' z
  obtain ⟨S2, hS2⟩ : ∃ S2, S2 = ui S1 1010 197 (nI s) := ⟨_, rfl⟩
  have f2 : Mf scM noA S1 S2 := by rw [hS2]; exact Mf.ui _ (by unfold scM; omega)
  have t9 : si S2 1009 197 = nI s := by rw [hS2, si_ui, if_neg (by omega)]; exact a3
  have t10 : si S2 1010 197 = nI s := by rw [hS2, si_ui, if_pos ⟨rfl, rfl⟩]
  have hx2 := f2.fx hx1
  have i2 := i1.fr f2
  have f02 := a2.tr f2
  rw [hfu]
  unfold f_X11_scan_L0
  rw [a3, m_byt hx1 i1 z, ob_some]
  simp only [lt_eq]
  rw [if_neg (fun y => nbl (Or.inl y)), a3, m_byt hx1 i1 z, ob_some]
  simp only [lt_eq]
  rw [if_pos (fun y => nbl (Or.inr y)), a3, ← hS2, t9, m_byt hx2 i2 z, ob_some]
  simp only [lt_eq]
  rw [if_pos (show ¬ byK f s = -1 from by_rng (i2.2.2 s z).2), m_let, ob_some]
  simp only [lt_eq, eq_bI]
  by_cases a : letB (byK f s)
  · obtain ⟨k0, e0⟩ := tk_1 z a
    rw [if_pos (show 97 ≤ byK f s ∧ byK f s ≤ 122 from a)]
    obtain ⟨T, p1, p2, p3, p4, p5⟩ := m_rdWord (F := F) (f := f) (L := L) (d := L - s) s F S2 (by omega) (by omega) hx2 i2 t9
    exact ⟨T, p1, f02.tr p2, s2, en.2, p5.trans t10, by rw [e0]; exact p3, by rw [p4, k0]; rfl, fun y => by omega, fun y => by omega⟩
  rw [if_neg (show ¬ (97 ≤ byK f s ∧ byK f s ≤ 122) from a), m_dig, ob_some]
  simp only [lt_eq, eq_bI]
  by_cases b : digB (byK f s)
  · obtain ⟨k0, e0⟩ := tk_2 z a b
    rw [if_pos b]
    obtain ⟨S3, hS3⟩ : ∃ S3, S3 = ui S2 1012 197 0 := ⟨_, rfl⟩
    rw [← hS3]
    have f3 : Mf scM noA S2 S3 := by rw [hS3]; exact Mf.ui _ (by unfold scM; omega)
    obtain ⟨T, p1, p2, p3, p4, p5, p6⟩ := m_rdNum (F := F) (f := f) (L := L) (d := L - s) (s := s) s F S3 (by omega) (by omega) (Nat.le_refl _) (f3.fx hx2) (i2.fr f3) (by rw [hS3, si_ui, if_neg (by omega)]; exact t9) (by rw [hS3, si_ui, if_pos ⟨rfl, rfl⟩, Nat.sub_self]; rfl)
    exact ⟨T, p1, (f02.tr f3).tr p2, s2, en.2, by rw [p6, hS3, si_ui, if_neg (by omega)]; exact t10, by rw [e0]; exact p3, by rw [p4, k0]; rfl, fun _ => by rw [e0]; exact p5, fun y => by omega⟩
  · obtain ⟨k0, e0⟩ := tk_3 z a b
    rw [if_neg b]
    have m9 : si (ui (ui S2 1011 197 3) 1012 197 (byK f s)) 1009 197 = nI s := by rw [si_ui, if_neg (by omega), si_ui, if_neg (by omega)]; exact t9
    rw [m9, nI_1]
    refine ⟨_, rfl, ((f02.tr (Mf.ui _ (by unfold scM; omega))).tr (Mf.ui _ (by unfold scM; omega))).tr (Mf.ui _ (by unfold scM; omega)), s2, en.2, ?_, ?_, ?_, fun y => by omega, fun _ => ?_⟩
    · rw [si_ui, if_neg (by omega), si_ui, if_neg (by omega), si_ui, if_neg (by omega)]; exact t10
    · rw [si_ui, if_pos ⟨rfl, rfl⟩, e0]
    · rw [si_ui, if_neg (by omega), si_ui, if_neg (by omega), si_ui, if_pos ⟨rfl, rfl⟩, k0]; rfl
    · rw [si_ui, if_neg (by omega), si_ui, if_pos ⟨rfl, rfl⟩]
end Sm
