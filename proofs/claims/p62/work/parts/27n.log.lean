/-! the journal grows -/
/-- the spool with an entry more in its journal; the oldest of sixty goes -/
def lgN (N : Nat → Int32) (a b : Int32) : Nat → Int32 := fun k =>
  if kN N 9 < 60 then (if k = 9 then nI (kN N 9 + 1) else if k = 6211 + 3 * kN N 9 then N 2 else if k = 6212 + 3 * kN N 9 then a else if k = 6213 + 3 * kN N 9 then b else N k)
  else (if 6211 ≤ k ∧ k < 6388 then N (k + 3) else if k = 6388 then N 2 else if k = 6389 then a else if k = 6390 then b else N k)
theorem lgN_lo {N : Nat → Int32} {a b : Int32} {k : Nat} (h : k < 6211) (h9 : ¬ k = 9) : lgN N a b k = N k := by
  unfold lgN
  by_cases z : kN N 9 < 60
  · rw [if_pos z, if_neg h9, if_neg (by omega), if_neg (by omega), if_neg (by omega)]
  · rw [if_neg z, if_neg (by omega), if_neg (by omega), if_neg (by omega), if_neg (by omega)]
theorem lgN_9 {N : Nat → Int32} {a b : Int32} (h : isCnt N 9 60) : isCnt (lgN N a b) 9 60 := by
  obtain ⟨h1, h2⟩ := h
  by_cases z : kN N 9 < 60
  · have e : lgN N a b 9 = nI (kN N 9 + 1) := by unfold lgN; rw [if_pos z, if_pos rfl]
    exact (isCnt_nI e (by omega) (by omega)).1
  · have e : lgN N a b 9 = nI 60 := by
      unfold lgN
      rw [if_neg z, if_neg (by omega), if_neg (by omega), if_neg (by omega), if_neg (by omega), h1]
      rw [show kN N 9 = 60 by omega]
    exact (isCnt_nI e (by omega) (by omega)).1
theorem lgN_congr {N M : Nat → Int32} {a b : Int32} (h : ∀ k, k < 6391 → M k = N k) : ∀ k, k < 6391 → lgN M a b k = lgN N a b k := by
  intro k hk
  have k9 : kN M 9 = kN N 9 := by unfold kN; rw [h 9 (by omega)]
  unfold lgN
  rw [k9, h 2 (by omega)]
  by_cases z : kN N 9 < 60
  · rw [if_pos z, if_pos z, h k hk]
  · rw [if_neg z, if_neg z, h k hk]
    by_cases z2 : 6211 ≤ k ∧ k < 6388
    · rw [if_pos z2, if_pos z2, h (k + 3) (by omega)]
    · rw [if_neg z2, if_neg z2]
/-- the class notes -/
theorem e_note {F : Nat} {S : St} {p : Nat} {N : Nat → Int32} (hs : SpF S p) (g : CJ S p N) (n9 : isCnt N 9 60) (a b : Int32) :
    ∃ T, f_X2_note F S (p + 13) (N 2) a b = some T ∧ CJ T p (lgN N a b) ∧ (∀ i, ¬ i = p + 13 → ¬ i = p + 14 → ¬ i = p + 15 → ¬ i = p + 16 → SameO S T i) ∧ (∀ f i, sr T f i = sr S f i) ∧ ln T = ln S := by
  obtain ⟨g1, f, g2, g3, g4⟩ := g
  have n92 := n9.2
  have s4 : si S 204 (p + 13) = nI (kN N 9) := g1.trans n9.1
  obtain ⟨c, hc⟩ : ∃ c, c = kN N 9 := ⟨_, rfl⟩
  rw [← hc] at s4 g4 n92
  have ml := Nat.mod_lt (f + c) (show 0 < 60 by omega)
  have l14 := hs.l14
  have l15 := hs.l15
  have l16 := hs.l16
  obtain ⟨T, hT⟩ : ∃ T, T = uai (uai (uai S (p + 14) ((f + c) % 60) (N 2)) (p + 15) ((f + c) % 60) a) (p + 16) ((f + c) % 60) b := ⟨_, rfl⟩
  have O : ∀ i, ¬ i = p + 14 → ¬ i = p + 15 → ¬ i = p + 16 → SameO S T i := fun i a b c => by rw [hT]; exact ((SameO.uai _ a).tr (SameO.uai _ b)).tr (SameO.uai _ c)
  have rows : (∀ j, ai T (p + 14) j = if j = (f + c) % 60 then N 2 else ai S (p + 14) j) ∧ (∀ j, ai T (p + 15) j = if j = (f + c) % 60 then a else ai S (p + 15) j) ∧ (∀ j, ai T (p + 16) j = if j = (f + c) % 60 then b else ai S (p + 16) j) := by
    rw [hT]
    refine ⟨fun j => ?_, fun j => ?_, fun j => ?_⟩
    · rw [ai_uai, if_neg (by omega), ai_uai, if_neg (by omega), ai_uai]
      by_cases z : j = (f + c) % 60
      · rw [if_pos ⟨rfl, z⟩, if_pos z]
      · rw [if_neg (fun y => z y.2), if_neg z]
    · rw [ai_uai, if_neg (by omega), ai_uai]
      by_cases z : j = (f + c) % 60
      · rw [if_pos ⟨rfl, z⟩, if_pos z]
      · rw [if_neg (fun y => z y.2), if_neg z, ai_uai, if_neg (by omega)]
    · rw [ai_uai]
      by_cases z : j = (f + c) % 60
      · rw [if_pos ⟨rfl, z⟩, if_pos z]
      · rw [if_neg (fun y => z y.2), if_neg z, ai_uai, if_neg (by omega), ai_uai, if_neg (by omega)]
  have t3 : si T 203 (p + 13) = nI f := by rw [(O (p + 13) (by omega) (by omega) (by omega)).1]; exact g3
  have t4 : si T 204 (p + 13) = nI c := by rw [(O (p + 13) (by omega) (by omega) (by omega)).1]; exact s4
  have lT : ln T = ln S := by rw [hT]; rfl
  have run : f_X2_note F S (p + 13) (N 2) a b = if 60 ≤ nI c then some (ui T 203 (p + 13) (nI ((f + 1) % 60))) else some (ui T 204 (p + 13) (nI (c + 1))) := by
    unfold f_X2_note
    rw [g3, s4, nI_add, lt_eq, mod60 (by omega), hs.r200_13, ob_some, e_put _ (by rw [l14]; omega) (by rw [l14]; omega), ob_some, sr_uai, hs.r201_13, ob_some, e_put _ (by rw [ln_uai, l15]; omega) (by rw [ln_uai, l15]; omega), ob_some, sr_uai, sr_uai, hs.r202_13, ob_some, e_put _ (by rw [ln_uai, ln_uai, l16]; omega) (by rw [ln_uai, ln_uai, l16]; omega), ob_some, ← hT, t3, t4, nI_1, nI_1, mod60 (by omega)]
    simp only [lt_eq]
  rw [run]
  by_cases z : c < 60
  · rw [if_neg (show ¬ (60 : Int32) ≤ nI c from nI_ge (a := c) (b := 60) z (by omega))]
    refine ⟨_, rfl, ⟨?_, f, g2, ?_, fun k hk => ?_⟩, fun i i1 i2 i3 i4 => (O i i2 i3 i4).tr (SameO.ui _ i1), fun f i => by rw [sr_ui, hT]; rfl, by rw [ln_ui]; exact lT⟩
    · rw [si_ui, if_pos ⟨rfl, rfl⟩]
      unfold lgN
      rw [← hc, if_pos z, if_pos rfl]
    · rw [si_ui, if_neg (fun y => by have := y.1; omega)]; exact t3
    · have k9 : kN (lgN N a b) 9 = c + 1 := (isCnt_nI (b := 60) (show lgN N a b 9 = nI (c + 1) by unfold lgN; rw [← hc, if_pos z, if_pos rfl]) (by omega) (by omega)).2
      rw [k9] at hk
      show ai T _ _ = _ ∧ ai T _ _ = _ ∧ ai T _ _ = _
      rw [rows.1, rows.2.1, rows.2.2]
      unfold lgN
      rw [← hc]
      simp only [if_pos z]
      by_cases y : k = c
      · subst y
        rw [if_pos rfl, if_pos rfl, if_pos rfl, if_neg (by omega), if_pos rfl, if_neg (by omega), if_neg (by omega), if_pos rfl, if_neg (by omega), if_neg (by omega), if_neg (by omega), if_pos rfl]
        exact ⟨rfl, rfl, rfl⟩
      · have ne : ¬ (f + k) % 60 = (f + c) % 60 := by omega
        rw [if_neg ne, if_neg ne, if_neg ne, if_neg (by omega), if_neg (by omega), if_neg (by omega), if_neg (by omega), if_neg (by omega), if_neg (by omega), if_neg (by omega), if_neg (by omega), if_neg (by omega), if_neg (by omega), if_neg (by omega), if_neg (by omega)]
        exact g4 k (by omega)
  · have c60 : c = 60 := by omega
    rw [if_pos (show (60 : Int32) ≤ nI c from nI_le (a := 60) (b := c) (by omega) (by omega))]
    refine ⟨_, rfl, ⟨?_, (f + 1) % 60, Nat.mod_lt _ (by omega), ?_, fun k hk => ?_⟩, fun i i1 i2 i3 i4 => (O i i2 i3 i4).tr (SameO.ui _ i1), fun f i => by rw [sr_ui, hT]; rfl, by rw [ln_ui]; exact lT⟩
    · rw [si_ui, if_neg (fun y => by have := y.1; omega), t4]
      unfold lgN
      rw [← hc, if_neg z, if_neg (by omega), if_neg (by omega), if_neg (by omega), if_neg (by omega), n9.1, ← hc]
    · rw [si_ui, if_pos ⟨rfl, rfl⟩]
    · have k9 : kN (lgN N a b) 9 = 60 := (isCnt_nI (b := 60) (show lgN N a b 9 = nI 60 by
        unfold lgN
        rw [← hc, if_neg z, if_neg (by omega), if_neg (by omega), if_neg (by omega), if_neg (by omega), n9.1, ← hc, c60]) (by omega) (by omega)).2
      rw [k9] at hk
      show ai T _ _ = _ ∧ ai T _ _ = _ ∧ ai T _ _ = _
      rw [rows.1, rows.2.1, rows.2.2]
      unfold lgN
      rw [← hc]
      simp only [if_neg z]
      by_cases y : k = 59
      · subst y
        have e : ((f + 1) % 60 + 59) % 60 = (f + c) % 60 := by omega
        rw [e, if_pos rfl, if_pos rfl, if_pos rfl]
        exact ⟨by simp, by simp, by simp⟩
      · have ne : ¬ ((f + 1) % 60 + k) % 60 = (f + c) % 60 := by omega
        have e : ((f + 1) % 60 + k) % 60 = (f + (k + 1)) % 60 := by omega
        rw [if_neg ne, if_neg ne, if_neg ne, e, if_pos (by omega), if_pos (by omega), if_pos (by omega)]
        have := g4 (k + 1) (by omega)
        rw [show 6211 + 3 * k + 3 = 6211 + 3 * (k + 1) by omega, show 6212 + 3 * k + 3 = 6212 + 3 * (k + 1) by omega, show 6213 + 3 * k + 3 = 6213 + 3 * (k + 1) by omega]
        exact this
/-- the model writes its log -/
def no8 (_ : Nat) : Prop := False
def is198 (i : Nat) : Prop := i = 198
section Lg
variable {F : Nat} {S : St}
end Lg
