/-! a place of a new message: the keeper -/
def plT (F : Nat) (G : St → Nat → Option (Int32 × St × Nat)) (p n0 : Nat) (S : St) (n : Nat) (x r : Int32) : Option (Int32 × St × Nat) :=
  Option.bind (sr S 303 n0) fun j270 =>
  Option.bind (f_X10_put F S j270 x r) fun S272 =>
  Option.bind (f_X1_isFirstOfItsKind F S272 24 x) fun z275 => lt z275.1 fun r277 => lt z275.2 fun S276 =>
  if r277 = 0 then (G S276 n) else
  (Option.bind (sr S276 710 p) fun j280 =>
  Option.bind (f_X9_addKeeper F S276 j280 r) fun z281 => lt z281.1 fun r283 => lt z281.2 fun S282 =>
  if r283 = 0 then (G S282 n) else
  (Option.bind (sr S282 711 p) fun j286 =>
  Option.bind (f_X2_note F S282 j286 (si S282 701 p) ((7 : Int32)) r) fun S288 =>
  G S288 n))
section Pk
variable {F : Nat} {S : St} {f : Nat → Int32} {L nS p n0 i q c : Nat} {X Y : Nat → Int32}
theorem e_tail (G : St → Nat → Option (Int32 × St × Nat)) (hp : p = 27) (hn : 197 ≤ n0) (hs : SpF S p) (hx : FxF S) (hi : Inp S f L) (hc : Cut S f L) (hg : gdC f L) (hik : i < kC f L) (P : Pt S nS p X Y) (hj : ∀ q, q < kN X 8 → ∃ j, ar S (p + 7) q = some j ∧ (j + 2 ≤ n0 ∨ n0 + 2 ≤ j) ∧ 197 ≤ j ∧ j + 2 ≤ nS)
    (hq : q < kN X 8) (hc9 : c < 1000) (ha : ai S (p + 9) q = nI c) (r0 : sr S 303 n0 = some (n0 + 1)) (l0 : ln S (n0 + 1) = kC f L) (cj : CJ S p X) (n9 : isCnt X 9 60) (d2 : si S 701 p = X 2) (hnf : ¬ fsC f L i → ¬ (isN X q = 1 ∧ ¬ deN X q = -1)) (hF : 10000 ≤ F) :
    ∃ T, plT F G p n0 S nS (nI i) (nI q) = G T nS ∧ PqF p n0 S T ∧ (∀ k, n0 + 2 ≤ k → SameO S T k) ∧ Pt T nS p (if isN X q = 1 ∧ ¬ deN X q = -1 then lgN (upd X (4773 + 3 * q) (-1)) 7 (nI q) else X) Y ∧ ar T (p + 7) = ar S (p + 7) ∧ si T 801 (p + 6) = si S 801 (p + 6) ∧
      si T 802 (p + 6) = (if isN X q = 1 ∧ ¬ deN X q = -1 then si S 802 (p + 6) - 1 else si S 802 (p + 6)) ∧ ai T (p + 8) = ai S (p + 8) ∧ ((fsC f L i → ai T (p + 9) q = nI (c + 1)) ∧ (¬ fsC f L i → ai T (p + 9) q = nI c) ∧ ∀ x, ¬ x = q → ai T (p + 9) x = ai S (p + 9) x) ∧
      CJ T p (if isN X q = 1 ∧ ¬ deN X q = -1 then lgN (upd X (4773 + 3 * q) (-1)) 7 (nI q) else X) ∧ ai T (n0 + 1) i = nI q ∧ ∀ j, ¬ j = i → ai T (n0 + 1) j = ai S (n0 + 1) j := by
  have g1 := hg.1
  have b8 := P.2.1
  obtain ⟨S1, hS1⟩ : ∃ S1, S1 = uai S (n0 + 1) i (nI q) := ⟨_, rfl⟩
  have s1 : ∀ k, ¬ k = n0 + 1 → SameO S S1 k := fun k h => by rw [hS1]; exact SameO.uai _ h
  have f1 : PqF p n0 S S1 := PqF.of (fun k _ _ _ d => s1 k d) (by rw [hS1]; rfl) (by rw [hS1]; rfl)
  have x1 := f1.fx hp hn hx
  have hs1 := f1.sp hp hn hs
  have i1 := f1.inp hp hn hi
  have c1 := f1.cut hp hn hc
  have P1 : Pt S1 nS p X Y := by rw [hS1]; exact P.uai (by omega) (fun q h => by obtain ⟨j, a, b, c, _⟩ := hj q h; exact ⟨j, a, by omega, by omega⟩)
  have a1 : ai S1 (p + 9) q = nI c := by rw [(s1 (p + 9) (by omega)).row]; exact ha
  have ar1 : ar S1 = ar S := by rw [hS1]; rfl
  have hj1 : ∀ q, q < kN X 8 → ∃ j, ar S1 (p + 7) q = some j ∧ ¬ j = p + 9 ∧ ¬ j + 1 = p + 9 := fun q h => by rw [ar1]; obtain ⟨j, a, b, c, _⟩ := hj q h; exact ⟨j, a, by omega, by omega⟩
  have m1 : ai S1 (n0 + 1) i = nI q ∧ ∀ j, ¬ j = i → ai S1 (n0 + 1) j = ai S (n0 + 1) j := by
    rw [hS1, ai_uaiE]
    exact ⟨upd_e _ _ _, fun j h => upd_n h⟩
  have cj1 : CJ S1 p X := cj.agr (fun k a b => s1 k (by omega))
  unfold plT
  rw [r0, ob_some, e_put _ (by rw [l0]; exact hik) (by rw [l0]; omega), ob_some, ← hS1, e_isFirst x1 i1 c1 hg hik (by omega), ob_some]
  simp only [lt_eq]
  by_cases z : fsC f L i
  rotate_left
  · have nd := hnf z
    rw [pI_f z, if_pos rfl, if_neg nd, if_neg nd]
    exact ⟨S1, rfl, f1, fun k h => s1 k (by omega), P1, by rw [ar1], (s1 (p + 6) (by omega)).1 801, (s1 (p + 6) (by omega)).1 802, (s1 (p + 8) (by omega)).row, ⟨fun y => absurd y z, fun _ => a1, fun x _ => by rw [(s1 (p + 9) (by omega)).row]⟩, cj1, m1⟩
  rw [pI_t z, if_neg (show ¬ (1 : Int32) = 0 by decide), hs1.r710_0, ob_some, e_addKeeper hs1 P1 hj1 hq hc9 a1, ob_some]
  simp only [lt_eq]
  obtain ⟨S2, hS2⟩ : ∃ S2, S2 = uai S1 (p + 9) q (nI (c + 1)) := ⟨_, rfl⟩
  rw [← hS2]
  have s2 : ∀ k, ¬ k = p + 9 → SameO S1 S2 k := fun k h => by rw [hS2]; exact SameO.uai _ h
  have f2 : PqF p n0 S S2 := f1.tr (PqF.of (fun k _ a _ _ => s2 k (by omega)) (by rw [hS2]; rfl) (by rw [hS2]; rfl))
  have ar2 : ar S2 = ar S := by rw [hS2]; exact ar1
  have P2 : Pt S2 nS p X Y := by rw [hS2]; exact P1.uai (by omega) hj1
  have r9 : (fsC f L i → ai S2 (p + 9) q = nI (c + 1)) ∧ (¬ fsC f L i → ai S2 (p + 9) q = nI c) ∧ ∀ x, ¬ x = q → ai S2 (p + 9) x = ai S (p + 9) x := by
    rw [hS2, ai_uaiE]
    exact ⟨fun _ => upd_e _ _ _, fun y => absurd z y, fun x h => by rw [upd_n h, (s1 (p + 9) (by omega)).row]⟩
  have cj2 : CJ S2 p X := cj1.agr (fun k a b => s2 k (by omega))
  have m2 : ai S2 (n0 + 1) i = nI q ∧ ∀ j, ¬ j = i → ai S2 (n0 + 1) j = ai S (n0 + 1) j := by rw [(s2 (n0 + 1) (by omega)).row]; exact m1
  by_cases w : isN X q = 1 ∧ ¬ deN X q = -1
  rotate_left
  · rw [if_neg w, if_neg w, if_pos rfl, if_neg w, if_neg w]
    exact ⟨S2, rfl, f2, fun k h => (s1 k (by omega)).tr (s2 k (by omega)), P2, by rw [ar2], ((s2 (p + 6) (by omega)).1 801).trans ((s1 (p + 6) (by omega)).1 801), ((s2 (p + 6) (by omega)).1 802).trans ((s1 (p + 6) (by omega)).1 802), by rw [(s2 (p + 8) (by omega)).row, (s1 (p + 8) (by omega)).row], r9, cj2, m2⟩
  rw [if_pos w, if_pos w, if_neg (show ¬ (1 : Int32) = 0 by decide), if_pos w, if_pos w]
  obtain ⟨S3, hS3⟩ : ∃ S3, S3 = ui (uai S2 (p + 10) q (-1)) 802 (p + 6) (si S1 802 (p + 6) - 1) := ⟨_, rfl⟩
  rw [← hS3]
  have s3 : ∀ k, ¬ k = p + 10 → ¬ k = p + 6 → SameO S2 S3 k := fun k h h' => by rw [hS3]; exact (SameO.uai _ h).tr (SameO.ui _ h')
  have f3 : PqF p n0 S S3 := f2.tr (PqF.of (fun k _ a _ _ => s3 k (by omega) (by omega)) (by rw [hS3]; rfl) (by rw [hS3]; rfl))
  have hs3 := f3.sp hp hn hs
  have P3 : Pt S3 nS p (upd X (4773 + 3 * q) (-1)) Y := by
    refine P2.net (by unfold kN; rw [upd_n (by omega)]) (by rw [hS3, si_ui, if_neg (by omega)]; rfl) (by rw [hS3]; rfl) (fun q h => ?_) (fun x h => ⟨upd_n (by omega), by unfold kN; rw [upd_n (by omega)], ?_⟩)
    · rw [ar2]
      obtain ⟨j, a, b, c, _⟩ := hj q h
      exact ⟨j, a, s3 j (by omega) (by omega), s3 _ (by omega) (by omega)⟩
    · have r10 : ai S3 (p + 10) x = if x = q then -1 else ai S2 (p + 10) x := by
        rw [hS3, ai_ui, ai_uaiE]
        rfl
      have dx : deN (upd X (4773 + 3 * q) (-1)) x = if x = q then -1 else deN X x := by
        by_cases y : x = q
        · rw [if_pos y, y]; exact upd_e _ _ _
        · rw [if_neg y]; exact upd_n (by omega)
      rw [r10, dx]
      by_cases y : x = q
      · rw [if_pos y, if_pos y]; exact Or.inr ⟨by rw [y]; exact w.1, rfl, rfl⟩
      · rw [if_neg y, if_neg y]; exact Or.inl ⟨rfl, rfl⟩
  have cj3 : CJ S3 p (upd X (4773 + 3 * q) (-1)) := (cj2.agr (fun k a b => s3 k (by omega) (by omega))).x (upd_n (by omega)) (fun k a b => upd_n (by omega)) n9.2
  have n93 : isCnt (upd X (4773 + 3 * q) (-1)) 9 60 := by unfold isCnt kN; rw [upd_n (by omega)]; exact n9
  have d3 : si S3 701 p = upd X (4773 + 3 * q) (-1) 2 := by
    rw [upd_n (by omega), (s3 p (by omega) (by omega)).1, (s2 p (by omega)).1, (s1 p (by omega)).1]
    exact d2
  obtain ⟨T, t1, t2, t3, t4, t5⟩ := e_note (F := F) hs3 cj3 n93 7 (nI q)
  rw [hs3.r711_0, ob_some, d3, t1, ob_some]
  have f4 : PqF p n0 S T := f3.tr (PqF.of (fun k _ _ a _ => t3 k (by omega) (by omega) (by omega) (by omega)) (by funext g k; exact t4 g k) t5)
  have art : ar T (p + 7) = ar S3 (p + 7) := (t3 _ (by omega) (by omega) (by omega) (by omega)).2.2.2.2.1
  have ar3 : ar S3 = ar S := by rw [hS3]; exact ar2
  have k83 : kN (upd X (4773 + 3 * q) (-1)) 8 = kN X 8 := by unfold kN; rw [upd_n (by omega)]
  refine ⟨T, rfl, f4, fun k h => (((s1 k (by omega)).tr (s2 k (by omega))).tr (s3 k (by omega) (by omega))).tr (t3 k (by omega) (by omega) (by omega) (by omega)), ?_, by rw [art, ar3], ?_, ?_, ?_, ?_, t2, ?_⟩
  · refine P3.net (by unfold kN; rw [lgN_lo (by omega) (by omega)]) ((t3 _ (by omega) (by omega) (by omega) (by omega)).1 800) art (fun x h => ?_) (fun x h => ⟨lgN_lo (by omega) (by omega), ?_, Or.inl ⟨?_, ?_⟩⟩)
    · rw [ar3]
      obtain ⟨j, a, b, c, _⟩ := hj x (by omega)
      exact ⟨j, a, t3 j (by omega) (by omega) (by omega) (by omega), t3 _ (by omega) (by omega) (by omega) (by omega)⟩
    · show (lgN _ _ _ _).toNatClampNeg = _
      rw [lgN_lo (by omega) (by omega)]
      rfl
    · exact lgN_lo (by omega) (by omega)
    · rw [(t3 _ (by omega) (by omega) (by omega) (by omega)).row]
  · rw [(t3 (p + 6) (by omega) (by omega) (by omega) (by omega)).1, hS3, si_ui, if_neg (by omega)]
    exact ((s2 (p + 6) (by omega)).1 801).trans ((s1 (p + 6) (by omega)).1 801)
  · rw [(t3 (p + 6) (by omega) (by omega) (by omega) (by omega)).1, hS3, si_ui, if_pos ⟨rfl, rfl⟩, (s1 (p + 6) (by omega)).1]
  · rw [(t3 (p + 8) (by omega) (by omega) (by omega) (by omega)).row, (s3 (p + 8) (by omega) (by omega)).row, (s2 (p + 8) (by omega)).row, (s1 (p + 8) (by omega)).row]
  · rw [(t3 (p + 9) (by omega) (by omega) (by omega) (by omega)).row, (s3 (p + 9) (by omega) (by omega)).row]
    exact r9
  · rw [(t3 (n0 + 1) (by omega) (by omega) (by omega) (by omega)).row, (s3 (n0 + 1) (by omega) (by omega)).row]
    exact m2
end Pk
