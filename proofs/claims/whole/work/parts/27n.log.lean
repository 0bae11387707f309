/-! the journal grows -/
/-- the spool with an entry more in its journal; the oldest of sixty goes -/
def lgN (N : Nat → Int32) (a b : Int32) : Nat → Int32 := fun k =>
  if kN N 9 < 60 then (if k = 9 then nI (kN N 9 + 1) else if k = 6211 + 3 * kN N 9 then N 2 else if k = 6212 + 3 * kN N 9 then a else if k = 6213 + 3 * kN N 9 then b else N k)
  else (if 6211 ≤ k ∧ k < 6388 then N (k + 3) else if k = 6388 then N 2 else if k = 6389 then a else if k = 6390 then b else N k)
theorem lgN_lo {N : Nat → Int32} {a b : Int32} {k : Nat} (h : k < 6211) (h9 : ¬ k = 9) : lgN N a b k = N k := by
  unfold lgN
  by_cases z : kN N 9 < 60
  · rw [if_pos z, if_neg h9, if_neg (by omega), if_neg (by omega), if_neg (by omega)]
  · rw [if_neg z, if_neg (by omega), if_neg (by omega), if_neg (by omega), if_neg (by omega)]
theorem lgN_9 {N : Nat → Int32} {a b : Int32} (h : isCnt N 9 60) : isCnt (lgN N a b) 9 60 := by
  obtain ⟨h1, h2⟩ := h
  by_cases z : kN N 9 < 60
  · have e : lgN N a b 9 = nI (kN N 9 + 1) := by unfold lgN; rw [if_pos z, if_pos rfl]
    exact (isCnt_nI e (by omega) (by omega)).1
  · have e : lgN N a b 9 = nI 60 := by
      unfold lgN
      rw [if_neg z, if_neg (by omega), if_neg (by omega), if_neg (by omega), if_neg (by omega), h1]
      rw [show kN N 9 = 60 by omega]
    exact (isCnt_nI e (by omega) (by omega)).1
theorem lgN_congr {N M : Nat → Int32} {a b : Int32} (h : ∀ k, k < 6391 → M k = N k) : ∀ k, k < 6391 → lgN M a b k = lgN N a b k := by
  intro k hk
  have k9 : kN M 9 = kN N 9 := by unfold kN; rw [h 9 (by omega)]
  unfold lgN
  rw [k9, h 2 (by omega)]
  by_cases z : kN N 9 < 60
  · rw [if_pos z, if_pos z, h k hk]
  · rw [if_neg z, if_neg z, h k hk]
    by_cases z2 : 6211 ≤ k ∧ k < 6388
    · rw [if_pos z2, if_pos z2, h (k + 3) (by omega)]
    · rw [if_neg z2, if_neg z2]
/-- the class notes -/
theorem e_note {F : Nat} {S : St} {p : Nat} {N : Nat → Int32} (hs : SpF S p) (g : CJ S p N) (n9 : isCnt N 9 60) (a b : Int32) :
    ∃ T, f_X2_note F S (p + 13) (N 2) a b = some T ∧ CJ T p (lgN N a b) ∧ (∀ i, ¬ i = p + 13 → ¬ i = p + 14 → ¬ i = p + 15 → ¬ i = p + 16 → SameO S T i) ∧ (∀ f i, sr T f i = sr S f i) ∧ ln T = ln S := by
  obtain ⟨g1, f, g2, g3, g4⟩ := g
  have n92 := n9.2
  have s4 : si S 204 (p + 13) = nI (kN N 9) := g1.trans n9.1
  obtain ⟨c, hc⟩ : ∃ c, c = kN N 9 := ⟨_, rfl⟩
  rw [← hc] at s4 g4 n92
  have ml := Nat.mod_lt (f + c) (show 0 < 60 by omega)
  have l14 := hs.l14
  have l15 := hs.l15
  have l16 := hs.l16
  obtain ⟨T, hT⟩ : ∃ T, T = uai (uai (uai S (p + 14) ((f + c) % 60) (N 2)) (p + 15) ((f + c) % 60) a) (p + 16) ((f + c) % 60) b := ⟨_, rfl⟩
  have O : ∀ i, ¬ i = p + 14 → ¬ i = p + 15 → ¬ i = p + 16 → SameO S T i := fun i a b c => by rw [hT]; exact ((SameO.uai _ a).tr (SameO.uai _ b)).tr (SameO.uai _ c)
  have rows : (∀ j, ai T (p + 14) j = if j = (f + c) % 60 then N 2 else ai S (p + 14) j) ∧ (∀ j, ai T (p + 15) j = if j = (f + c) % 60 then a else ai S (p + 15) j) ∧ (∀ j, ai T (p + 16) j = if j = (f + c) % 60 then b else ai S (p + 16) j) := by
    rw [hT]
    refine ⟨fun j => ?_, fun j => ?_, fun j => ?_⟩
    · rw [ai_uai, if_neg (by omega), ai_uai, if_neg (by omega), ai_uai]
      by_cases z : j = (f + c) % 60
      · rw [if_pos ⟨rfl, z⟩, if_pos z]
      · rw [if_neg (fun y => z y.2), if_neg z]
    · rw [ai_uai, if_neg (by omega), ai_uai]
      by_cases z : j = (f + c) % 60
      · rw [if_pos ⟨rfl, z⟩, if_pos z]
      · rw [if_neg (fun y => z y.2), if_neg z, ai_uai, if_neg (by omega)]
    · rw [ai_uai]
      by_cases z : j = (f + c) % 60
      · rw [if_pos ⟨rfl, z⟩, if_pos z]
      · rw [if_neg (fun y => z y.2), if_neg z, ai_uai, if_neg (by omega), ai_uai, if_neg (by omega)]
  have t3 : si T 203 (p + 13) = nI f := by rw [(O (p + 13) (by omega) (by omega) (by omega)).1]; exact g3
  have t4 : si T 204 (p + 13) = nI c := by rw [(O (p + 13) (by omega) (by omega) (by omega)).1]; exact s4
  have lT : ln T = ln S := by rw [hT]; rfl
  have run : f_X2_note F S (p + 13) (N 2) a b = if 60 ≤ nI c then some (ui T 203 (p + 13) (nI ((f + 1) % 60))) else some (ui T 204 (p + 13) (nI (c + 1))) := by
    unfold f_X2_note
    rw [g3, s4, nI_add, lt_eq, mod60 (by omega), hs.r200_13, ob_some, e_put _ (by rw [l14]; omega) (by rw [l14]; omega), ob_some, sr_uai, hs.r201_13, ob_some, e_put _ (by rw [ln_uai, l15]; omega) (by rw [ln_uai, l15]; omega), ob_some, sr_uai, sr_uai, hs.r202_13, ob_some, e_put _ (by rw [ln_uai, ln_uai, l16]; omega) (by rw [ln_uai, ln_uai, l16]; omega), ob_some, ← hT, t3, t4, nI_1, nI_1, mod60 (by omega)]
    simp only [lt_eq]
  rw [run]
  by_cases z : c < 60
  · rw [if_neg (show ¬ (60 : Int32) ≤ nI c from nI_ge (a := c) (b := 60) z (by omega))]
    refine ⟨_, rfl, ⟨?_, f, g2, ?_, fun k hk => ?_⟩, fun i i1 i2 i3 i4 => (O i i2 i3 i4).tr (SameO.ui _ i1), fun f i => by rw [sr_ui, hT]; rfl, by rw [ln_ui]; exact lT⟩
    · rw [si_ui, if_pos ⟨rfl, rfl⟩]
      unfold lgN
      rw [← hc, if_pos z, if_pos rfl]
    · rw [si_ui, if_neg (fun y => by have := y.1; omega)]; exact t3
    · have k9 : kN (lgN N a b) 9 = c + 1 := (isCnt_nI (b := 60) (show lgN N a b 9 = nI (c + 1) by unfold lgN; rw [← hc, if_pos z, if_pos rfl]) (by omega) (by omega)).2
      rw [k9] at hk
      show ai T _ _ = _ ∧ ai T _ _ = _ ∧ ai T _ _ = _
      rw [rows.1, rows.2.1, rows.2.2]
      unfold lgN
      rw [← hc]
      simp only [if_pos z]
      by_cases y : k = c
      · subst y
        rw [if_pos rfl, if_pos rfl, if_pos rfl, if_neg (by omega), if_pos rfl, if_neg (by omega), if_neg (by omega), if_pos rfl, if_neg (by omega), if_neg (by omega), if_neg (by omega), if_pos rfl]
        exact ⟨rfl, rfl, rfl⟩
      · have ne : ¬ (f + k) % 60 = (f + c) % 60 := by omega
        rw [if_neg ne, if_neg ne, if_neg ne, if_neg (by omega), if_neg (by omega), if_neg (by omega), if_neg (by omega), if_neg (by omega), if_neg (by omega), if_neg (by omega), if_neg (by omega), if_neg (by omega), if_neg (by omega), if_neg (by omega), if_neg (by omega)]
        exact g4 k (by omega)
  · have c60 : c = 60 := by omega
    rw [if_pos (show (60 : Int32) ≤ nI c from nI_le (a := 60) (b := c) (by omega) (by omega))]
    refine ⟨_, rfl, ⟨?_, (f + 1) % 60, Nat.mod_lt _ (by omega), ?_, fun k hk => ?_⟩, fun i i1 i2 i3 i4 => (O i i2 i3 i4).tr (SameO.ui _ i1), fun f i => by rw [sr_ui, hT]; rfl, by rw [ln_ui]; exact lT⟩
    · rw [si_ui, if_neg (fun y => by have := y.1; omega), t4]
      unfold lgN
      rw [← hc, if_neg z, if_neg (by omega), if_neg (by omega), if_neg (by omega), if_neg (by omega), n9.1, ← hc]
    · rw [si_ui, if_pos ⟨rfl, rfl⟩]
    · have k9 : kN (lgN N a b) 9 = 60 := (isCnt_nI (b := 60) (show lgN N a b 9 = nI 60 by
        unfold lgN
        rw [← hc, if_neg z, if_neg (by omega), if_neg (by omega), if_neg (by omega), if_neg (by omega), n9.1, ← hc, c60]) (by omega) (by omega)).2
      rw [k9] at hk
      show ai T _ _ = _ ∧ ai T _ _ = _ ∧ ai T _ _ = _
      rw [rows.1, rows.2.1, rows.2.2]
      unfold lgN
      rw [← hc]
      simp only [if_neg z]
      by_cases y : k = 59
      · subst y
        have e : ((f + 1) % 60 + 59) % 60 = (f + c) % 60 := by omega
        rw [e, if_pos rfl, if_pos rfl, if_pos rfl]
        exact ⟨by simp, by simp, by simp⟩
      · have ne : ¬ ((f + 1) % 60 + k) % 60 = (f + c) % 60 := by omega
        have e : ((f + 1) % 60 + k) % 60 = (f + (k + 1)) % 60 := by omega
        rw [if_neg ne, if_neg ne, if_neg ne, e, if_pos (by omega), if_pos (by omega), if_pos (by omega)]
        have := g4 (k + 1) (by omega)
        rw [show 6211 + 3 * k + 3 = 6211 + 3 * (k + 1) by omega, show 6212 + 3 * k + 3 = 6212 + 3 * (k + 1) by omega, show 6213 + 3 * k + 3 = 6213 + 3 * (k + 1) by omega]
        exact this
/-- the model writes its log -/
def no8 (_ : Nat) : Prop := False
def is198 (i : Nat) : Prop := i = 198
abbrev Net (S T : St) : Prop := Mf no8 is198 S T
theorem Net.rf (S : St) : Net S S := Mf.rf S
theorem Net.uai {S : St} (k : Nat) (v : Int32) : Net S (uai S 198 k v) := Mf.uai v rfl
theorem Net.si {S T : St} (h : Net S T) (f i : Nat) : si T f i = si S f i := h.2.1 f i (fun z => z.2)
theorem Net.mfr {S T : St} (h : Net S T) : MFr S T := ⟨h.1, fun f i _ => h.si f i, fun f _ => h.si f 197, fun i a b => h.2.2.1 i (fun z => by unfold is198 at z; omega), h.2.2.2.1, h.2.2.2.2.1, h.2.2.2.2.2⟩
theorem Net.row {S T : St} (h : Net S T) {i : Nat} (hi : ¬ i = 198) : ai T i = ai S i := h.2.2.1 i hi
section Lg
variable {F : Nat} {S : St}
theorem m_log66 (hx : FxF S) (n9 : isCnt (ai S 198) 9 59) (a b : Int32) : ∃ T, f_X11_log_L66 F S 197 a b = some T ∧ Net S T ∧ ∀ k, ai T 198 k = if k = 9 then nI (kN (ai S 198) 9 + 1) else if k = 6211 + 3 * kN (ai S 198) 9 then ai S 198 2 else if k = 6212 + 3 * kN (ai S 198) 9 then a else if k = 6213 + 3 * kN (ai S 198) 9 then b else ai S 198 k := by
  obtain ⟨n1, n2⟩ := n9
  obtain ⟨c, hc⟩ : ∃ c, c = kN (ai S 198) 9 := ⟨_, rfl⟩
  rw [← hc] at n1 n2
  obtain ⟨S1, h1⟩ : ∃ S1, S1 = uai S 198 (6211 + 3 * c) (ai S 198 2) := ⟨_, rfl⟩
  obtain ⟨S2, h2⟩ : ∃ S2, S2 = uai S1 198 (6212 + 3 * c) a := ⟨_, rfl⟩
  obtain ⟨S3, h3⟩ : ∃ S3, S3 = uai S2 198 (6213 + 3 * c) b := ⟨_, rfl⟩
  have N1 : Net S S1 := by rw [h1]; exact Net.uai _ _
  have N2 : Net S S2 := by rw [h2]; exact N1.tr (Net.uai _ _)
  have N3 : Net S S3 := by rw [h3]; exact N2.tr (Net.uai _ _)
  have x1 := N1.mfr.fx hx
  have x2 := N2.mfr.fx hx
  have x3 := N3.mfr.fx hx
  have s9 : ai S3 198 9 = nI c := by rw [h3, ai_uai, if_neg (by omega), h2, ai_uai, if_neg (by omega), h1, ai_uai, if_neg (by omega)]; exact n1
  refine ⟨uai S3 198 9 (nI (c + 1)), ?_, N3.tr (Net.uai _ _), fun k => ?_⟩
  · unfold f_X11_log_L66
    rw [hx.r1001_197, ob_some, hx.l198, show (9 : Int32) = nI 9 from rfl, cki_nI (by omega) (by omega), nI_clamp (by omega), n1, show (3 : Int32) = nI 3 from rfl, show (6211 : Int32) = nI 6211 from rfl, nI_mul, nI_add]
    simp only [lt_eq]
    rw [ob_some, ob_some, hx.l198, show (2 : Int32) = nI 2 from rfl, cki_nI (by omega) (by omega), cki_nI (by omega) (by omega), nI_clamp (by omega), nI_clamp (by omega), ← h1, x1.r1001_197, ob_some, x1.l198, show (1 : Int32) = nI 1 from rfl, nI_add, nI_add, show 6211 + 3 * c + 1 = 6212 + 3 * c by omega, show 6211 + 3 * c + 2 = 6213 + 3 * c by omega, cki_nI (by omega) (by omega), nI_clamp (by omega), ← h2, x2.r1001_197, ob_some, x2.l198, cki_nI (by omega) (by omega), nI_clamp (by omega), ← h3, x3.r1001_197, ob_some, x3.l198, cki_nI (by omega) (by omega), cki_nI (by omega) (by omega), s9, nI_add]
  · rw [← hc, ai_uai]
    by_cases z : k = 9
    · rw [if_pos ⟨rfl, z⟩, if_pos z]
    rw [if_neg (fun y => z y.2), if_neg z, h3, ai_uai]
    by_cases z3 : k = 6213 + 3 * c
    · rw [if_pos ⟨rfl, z3⟩, if_neg (by omega), if_neg (by omega), if_pos z3]
    rw [if_neg (fun y => z3 y.2), if_neg z3, h2, ai_uai]
    by_cases z2 : k = 6212 + 3 * c
    · rw [if_pos ⟨rfl, z2⟩, if_neg (by omega), if_pos z2]
    rw [if_neg (fun y => z2 y.2), if_neg z2, h1, ai_uai]
    by_cases z1 : k = 6211 + 3 * c
    · rw [if_pos ⟨rfl, z1⟩, if_pos z1]
    rw [if_neg (fun y => z1 y.2), if_neg z1]
theorem m_log (hx : FxF S) (th : si S 1005 197 = 0) (n9 : isCnt (ai S 198) 9 60) (a b : Int32) (hF : 1000 ≤ F) : ∃ T, f_X11_log F S 197 a b = some T ∧ Net S T ∧ ai T 198 = lgN (ai S 198) a b := by
  obtain ⟨n1, n2⟩ := n9
  unfold f_X11_log
  rw [th, if_pos rfl, hx.r1001_197, ob_some, hx.l198, show (9 : Int32) = nI 9 from rfl, cki_nI (by omega) (by omega), nI_clamp (by omega), n1]
  by_cases z : kN (ai S 198) 9 < 60
  · rw [if_pos (show ¬ nI (kN (ai S 198) 9) = 60 from fun y => by rw [show (60 : Int32) = nI 60 from rfl, nI_eq (by omega) (by omega)] at y; omega)]
    obtain ⟨T, t1, t2, t3⟩ := m_log66 (F := F) hx ⟨n1, by omega⟩ a b
    refine ⟨T, t1, t2, funext fun k => ?_⟩
    rw [t3]
    unfold lgN
    rw [if_pos z]
  · have c60 : kN (ai S 198) 9 = 60 := by omega
    rw [c60, if_neg (show ¬ ¬ nI 60 = 60 from fun y => y rfl)]
    have loop : ∀ d k fu T, k + d = 177 → d < fu → Net S T → (∀ j, ai T 198 j = if 6211 ≤ j ∧ j < 6211 + k then ai S 198 (j + 3) else ai S 198 j) → ∃ T', f_X11_log_L22 F fu T 197 a b (nI k) = some T' ∧ Net S T' ∧ ai T' 198 = lgN (ai S 198) a b := by
      intro d
      induction d with
      | zero =>
        intro k fu T hk hfu m1 m2
        obtain ⟨fu, rfl⟩ : ∃ f', fu = f' + 1 := ⟨fu - 1, by omega⟩
        have : k = 177 := by omega
        subst this
        have hxT := m1.mfr.fx hx
        obtain ⟨U, hU⟩ : ∃ U, U = uai T 198 9 (nI 59) := ⟨_, rfl⟩
        have NU : Net T U := by rw [hU]; exact Net.uai _ _
        have hxU := NU.mfr.fx hxT
        have u9 : ai U 198 9 = nI 59 := by rw [hU, ai_uai, if_pos ⟨rfl, rfl⟩]
        obtain ⟨i9, k9⟩ := isCnt_nI (b := 59) u9 (by omega) (by omega)
        obtain ⟨T', t1, t2, t3⟩ := m_log66 (F := F) hxU i9 a b
        refine ⟨T', ?_, (m1.tr NU).tr t2, funext fun k => ?_⟩
        · unfold f_X11_log_L22
          have e9 : ai T 198 9 = nI 60 := by rw [m2, if_neg (by omega), n1, c60]
          rw [if_pos (by decide), hxT.r1001_197, ob_some, hxT.l198, show (9 : Int32) = nI 9 from rfl, cki_nI (by omega) (by omega), cki_nI (by omega) (by omega), nI_clamp (by omega), e9, show nI 60 - 1 = nI 59 by decide, ← hU]
          exact t1
        · have UN : ∀ j, ¬ j = 9 → ai U 198 j = if 6211 ≤ j ∧ j < 6388 then ai S 198 (j + 3) else ai S 198 j := fun j hj => by rw [hU, ai_uai, if_neg (fun y => hj y.2), m2]
          rw [t3, k9]
          unfold lgN
          rw [if_neg z]
          by_cases y : k = 9
          · subst y
            rw [if_pos rfl, if_neg (by omega), if_neg (by omega), if_neg (by omega), if_neg (by omega), n1, c60]
          rw [if_neg y, UN 2 (by omega), if_neg (show ¬ (6211 ≤ 2 ∧ 2 < 6388) by omega), UN k y]
          by_cases y1 : k = 6388
          · subst y1; simp
          by_cases y2 : k = 6389
          · subst y2; simp
          by_cases y3 : k = 6390
          · subst y3; simp
          rw [if_neg (by omega), if_neg (by omega), if_neg (by omega), if_neg y1, if_neg y2, if_neg y3]
      | succ d ih =>
        intro k fu T hk hfu m1 m2
        obtain ⟨fu, rfl⟩ : ∃ f', fu = f' + 1 := ⟨fu - 1, by omega⟩
        have hxT := m1.mfr.fx hx
        obtain ⟨T', t1, t2⟩ := ih (k + 1) fu (uai T 198 (6211 + k) (ai S 198 (6214 + k))) (by omega) (by omega) (m1.tr (Net.uai _ _)) (fun j => by
          rw [ai_uai]
          by_cases y : j = 6211 + k
          · rw [if_pos ⟨rfl, y⟩, if_pos (by omega), y, show 6211 + k + 3 = 6214 + k by omega]
          · rw [if_neg (fun q => y q.2), m2]
            by_cases y2 : 6211 ≤ j ∧ j < 6211 + k
            · rw [if_pos y2, if_pos (by omega)]
            · rw [if_neg y2, if_neg (by omega)])
        refine ⟨T', ?_, t2⟩
        rw [← t1]
        conv => lhs; unfold f_X11_log_L22
        rw [show (177 : Int32) = nI 177 from rfl, if_neg (nI_ge (by omega) (by omega)), hxT.r1001_197, ob_some, ob_some, hxT.l198, show (6214 : Int32) = nI 6214 from rfl, show (6211 : Int32) = nI 6211 from rfl, nI_add, nI_add, cki_nI (by omega) (by omega), cki_nI (by omega) (by omega), nI_clamp (by omega), nI_clamp (by omega), m2, if_neg (by omega), lt_eq, lt_eq, nI_1]
    exact loop 177 0 F S (by omega) (by omega) (Net.rf S) (fun j => by rw [if_neg (by omega)])
end Lg
