/-! the model's net is put aside, and put back -/
def BgT (S T : St) : Prop := (∀ f i, sr T f i = sr S f i) ∧ (∀ f i, ¬ (i = 197 ∧ (f = 1005 ∨ f = 1021)) → si T f i = si S f i) ∧ (∀ i, ¬ i = 206 → ai T i = ai S i) ∧ al T = al S ∧ ar T = ar S ∧ ln T = ln S
def EnT (S T : St) : Prop := (∀ f i, sr T f i = sr S f i) ∧ (∀ f i, ¬ (i = 197 ∧ f = 1005) → si T f i = si S f i) ∧ (∀ i, ¬ i = 198 → ai T i = ai S i) ∧ al T = al S ∧ ar T = ar S ∧ ln T = ln S
section Bt
variable {F : Nat} {S : St}
theorem m_begT (hx : FxF S) (hF : 100000 ≤ F) : ∃ T, f_X11_beginThought F S 197 = some T ∧ FxF T ∧ si T 1005 197 = 1 ∧ si T 1021 197 = 0 ∧ (∀ k, k < 6391 → ai T 206 k = ai S 198 k) ∧ BgT S T := by
  have loop : ∀ d k fu T, k + d = 6391 → d < fu → Mf no8 (fun i => i = 206) S T → (∀ j, j < k → ai T 206 j = ai S 198 j) → ∃ T', f_X11_beginThought_L2 F fu T 197 (nI k) = some T' ∧ FxF T' ∧ si T' 1005 197 = 1 ∧ si T' 1021 197 = 0 ∧ (∀ k, k < 6391 → ai T' 206 k = ai S 198 k) ∧ BgT S T' := by
    intro d
    induction d with
    | zero =>
      intro k fu T hk hfu m1 m2
      obtain ⟨fu, rfl⟩ : ∃ f', fu = f' + 1 := ⟨fu - 1, by omega⟩
      have : k = 6391 := by omega
      subst this
      have hxT := m1.fx hx
      refine ⟨ui (ui T 1005 197 1) 1021 197 0, ?_, hxT.agr (fun _ _ _ _ => rfl) (fun _ _ => rfl) rfl, by rw [si_ui, if_neg (by omega), si_ui, if_pos ⟨rfl, rfl⟩], by rw [si_ui, if_pos ⟨rfl, rfl⟩], m2, m1.1, fun f i a => ?_, fun i a => m1.2.2.1 i a, m1.2.2.2.1, m1.2.2.2.2.1, m1.2.2.2.2.2⟩
      · unfold f_X11_beginThought_L2
        rw [if_pos (by decide)]
        rfl
      · rw [si_ui, if_neg (by omega), si_ui, if_neg (by omega)]
        exact m1.2.1 f i (fun z => z.2)
    | succ d ih =>
      intro k fu T hk hfu m1 m2
      obtain ⟨fu, rfl⟩ : ∃ f', fu = f' + 1 := ⟨fu - 1, by omega⟩
      have hxT := m1.fx hx
      have n8 : ai T 198 = ai S 198 := m1.2.2.1 198 (by omega)
      obtain ⟨T', t1, t2⟩ := ih (k + 1) fu (uai T 206 k (ai T 198 k)) (by omega) (by omega) (m1.tr (Mf.uai _ rfl)) (fun j hj => by
        rw [ai_uaiE]
        by_cases z : j = k
        · rw [z, upd_e, n8]
        · rw [upd_n z]; exact m2 j (by omega))
      refine ⟨T', ?_, t2⟩
      rw [← t1]
      conv => lhs; unfold f_X11_beginThought_L2
      rw [show (6391 : Int32) = nI 6391 from rfl, if_neg (nI_ge (by omega) (by omega)), hxT.r1023_197, ob_some, hxT.r1001_197, ob_some, hxT.l198, hxT.l206, cki_nI (by omega) (by omega), cki_nI (by omega) (by omega), nI_clamp (by omega), nI_1]
      simp only [lt_eq]
  exact loop 6391 0 F S (by omega) (by omega) (Mf.rf S) (fun j hj => by omega)
theorem m_endT (hx : FxF S) (hF : 100000 ≤ F) : ∃ T, f_X11_endThought F S 197 = some T ∧ si T 1005 197 = 0 ∧ (∀ k, k < 6391 → ai T 198 k = ai S 206 k) ∧ (∀ k, 6391 ≤ k → ai T 198 k = ai S 198 k) ∧ EnT S T := by
  have loop : ∀ d k fu T, k + d = 6391 → d < fu → Mf no8 is198 S T → (∀ j, j < k → ai T 198 j = ai S 206 j) → (∀ j, 6391 ≤ j → ai T 198 j = ai S 198 j) → ∃ T', f_X11_endThought_L2 F fu T 197 (nI k) = some T' ∧ si T' 1005 197 = 0 ∧ (∀ k, k < 6391 → ai T' 198 k = ai S 206 k) ∧ (∀ k, 6391 ≤ k → ai T' 198 k = ai S 198 k) ∧ EnT S T' := by
    intro d
    induction d with
    | zero =>
      intro k fu T hk hfu m1 m2 m3
      obtain ⟨fu, rfl⟩ : ∃ f', fu = f' + 1 := ⟨fu - 1, by omega⟩
      have : k = 6391 := by omega
      subst this
      refine ⟨ui T 1005 197 0, ?_, by rw [si_ui, if_pos ⟨rfl, rfl⟩], m2, m3, m1.1, fun f i a => ?_, fun i a => m1.2.2.1 i a, m1.2.2.2.1, m1.2.2.2.2.1, m1.2.2.2.2.2⟩
      · unfold f_X11_endThought_L2
        rw [if_pos (by decide)]
        rfl
      · rw [si_ui, if_neg (by omega)]
        exact m1.2.1 f i (fun z => z.2)
    | succ d ih =>
      intro k fu T hk hfu m1 m2 m3
      obtain ⟨fu, rfl⟩ : ∃ f', fu = f' + 1 := ⟨fu - 1, by omega⟩
      have hxT := m1.fx hx
      have n8 : ai T 206 = ai S 206 := m1.2.2.1 206 (by unfold is198; omega)
      obtain ⟨T', t1, t2⟩ := ih (k + 1) fu (uai T 198 k (ai T 206 k)) (by omega) (by omega) (m1.tr (Mf.uai _ rfl)) (fun j hj => by
        rw [ai_uaiE]
        by_cases z : j = k
        · rw [z, upd_e, n8]
        · rw [upd_n z]; exact m2 j (by omega)) (fun j hj => by
        rw [ai_uaiE, upd_n (by omega)]; exact m3 j hj)
      refine ⟨T', ?_, t2⟩
      rw [← t1]
      conv => lhs; unfold f_X11_endThought_L2
      rw [show (6391 : Int32) = nI 6391 from rfl, if_neg (nI_ge (by omega) (by omega)), hxT.r1001_197, ob_some, hxT.r1023_197, ob_some, hxT.l198, hxT.l206, cki_nI (by omega) (by omega), cki_nI (by omega) (by omega), nI_clamp (by omega), nI_1]
      simp only [lt_eq]
  exact loop 6391 0 F S (by omega) (by omega) (Mf.rf S) (fun j hj => by omega) (fun _ _ => rfl)
/-- after the thought all is as before -/
theorem thoughtE {T0 T1 T2 : St} (s0 : si S 1005 197 = 0) (b6 : ∀ k, k < 6391 → ai T0 206 k = ai S 198 k) (b : BgT S T0) (l : LvT T0 T1) (hi : ∀ k, 6391 ≤ k → ai T1 198 k = ai T0 198 k) (e0 : si T2 1005 197 = 0) (e6 : ∀ k, k < 6391 → ai T2 198 k = ai T1 206 k) (e7 : ∀ k, 6391 ≤ k → ai T2 198 k = ai T1 198 k) (e : EnT T1 T2) : Eqv S T2 ∧ al T2 = al S ∧ si T2 1000 197 = si S 1000 197 := by
  have L := l.1.1
  have eal : al T2 = al S := e.2.2.2.1.trans (L.2.2.2.2.1.trans b.2.2.2.1)
  refine ⟨⟨fun f i _ => (e.1 f i).trans ((L.1 f i).trans (b.1 f i)), fun f i a => ?_, fun i a => ?_, fun i _ => by rw [eal], fun i _ => by rw [e.2.2.2.2.1, L.2.2.2.2.2.1, b.2.2.2.2.1], e.2.2.2.2.2.trans (L.2.2.2.2.2.2.trans b.2.2.2.2.2)⟩, eal, ?_⟩
  · by_cases z : i = 197 ∧ f = 1005
    · rw [z.1, z.2, e0, s0]
    · have z2 : ¬ (i = 197 ∧ f = 1021) := fun y => a (Or.inl (by rw [y.1, y.2]; decide))
      rw [e.2.1 f i z, l.2.2.1 f i a, b.2.1 f i (by omega)]
  · by_cases z : i = 198
    · subst z
      funext k
      by_cases y : k < 6391
      · rw [e6 k y, l.2.1, b6 k y]
      · rw [e7 k (by omega), hi k (by omega), b.2.2.1 198 (by omega)]
    · have z2 : ¬ i = 206 := fun y => a (by rw [y]; decide)
      rw [e.2.2.1 i z, l.2.2.2 i a z, b.2.2.1 i z2]
  · rw [e.2.1 1000 197 (by omega), l.1.2.2.2.2.2.2, b.2.1 1000 197 (by omega)]
end Bt
