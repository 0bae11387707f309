section Ph
variable {N : Nat → Int32} {pj : Nat → Nat} {m i : Nat}
theorem hsI_lt {m' q : Nat} (h : m' < m) : hsI N pj m i m' q ↔ hasN N m' q := by
  unfold hsI
  exact ⟨fun y => by rcases y with y | y; exact y.2; omega, fun y => Or.inl ⟨h, y⟩⟩
theorem hsI_m {q : Nat} : hsI N pj m i m q ↔ ∃ j, j < i ∧ pj j = q := by
  unfold hsI
  exact ⟨fun y => by rcases y with y | y; omega; exact y.2, fun y => Or.inr ⟨rfl, y⟩⟩
theorem hsI_ne {m' q : Nat} (ne : ¬ q = pj i) : hsI N pj m (i + 1) m' q ↔ hsI N pj m i m' q := by
  unfold hsI
  constructor
  · rintro (y | ⟨y, j, j1, j2⟩)
    · exact Or.inl y
    · refine Or.inr ⟨y, j, ?_, j2⟩
      by_cases e : j = i
      · rw [e] at j2; exact absurd j2.symm ne
      · omega
  · rintro (y | ⟨y, j, j1, j2⟩)
    · exact Or.inl y
    · exact Or.inr ⟨y, j, by omega, j2⟩
theorem hsI_mono {m' q : Nat} (h : hsI N pj m i m' q) : hsI N pj m (i + 1) m' q := by
  rcases h with y | ⟨y, j, j1, j2⟩
  · exact Or.inl y
  · exact Or.inr ⟨y, j, by omega, j2⟩
theorem hsI_old {m' q : Nat} (o : ∃ j, j < i ∧ pj j = q) : hsI N pj m (i + 1) m' q ↔ hsI N pj m i m' q := by
  constructor
  · rintro (y | ⟨y, j⟩)
    · exact Or.inl y
    · exact Or.inr ⟨y, o⟩
  · exact hsI_mono
/-- how many keep a part -/
noncomputable def kpC (N : Nat → Int32) (pj : Nat → Nat) (m i q : Nat) : Nat := cntP (fun m' => hsI N pj m i m' q ∧ kpI N m m') (m + 1)
theorem kpC_ne {q : Nat} (ne : ¬ q = pj i) : kpC N pj m (i + 1) q = kpC N pj m i q := cntP_c (fun k _ => by rw [hsI_ne ne])
theorem kpC_old {q : Nat} (o : ∃ j, j < i ∧ pj j = q) : kpC N pj m (i + 1) q = kpC N pj m i q := cntP_c (fun k _ => by rw [hsI_old o])
theorem kpC_new {q : Nat} (e : pj i = q) (o : ¬ ∃ j, j < i ∧ pj j = q) : kpC N pj m (i + 1) q = kpC N pj m i q + 1 := by
  unfold kpC
  rw [cntP_s, cntP_s, pif_t (⟨hsI_m.mpr ⟨i, by omega, e⟩, Or.inr rfl⟩), pif_f (fun y => o (hsI_m.mp y.1)), cntP_c (fun k hk => by rw [hsI_lt hk]), Nat.add_zero]
  congr 1
  exact (cntP_c (fun k hk => by rw [hsI_lt hk])).symm
theorem kpC_le {q : Nat} : kpC N pj m i q ≤ m + 1 := cntP_le _ _
/-- the first message that has a part -/
def fmI (N : Nat → Int32) (pj : Nat → Nat) (m i q : Nat) (v : Int32) : Prop := ∃ m', m' ≤ m ∧ hsI N pj m i m' q ∧ (∀ m'', m'' < m' → ¬ hsI N pj m i m'' q) ∧ v = nI m'
theorem fmI.up {q : Nat} {v : Int32} (h : fmI N pj m i q v) : fmI N pj m (i + 1) q v := by
  obtain ⟨m', a, b, c, d⟩ := h
  exact ⟨m', a, hsI_mono b, fun m'' h y => c m'' h ((hsI_lt (by omega)).mpr ((hsI_lt (by omega)).mp y)), d⟩
end Ph
/-- what the places write -/
def PqF (p n0 : Nat) (S T : St) : Prop := (∀ k, k < n0 + 2 → ¬ (p + 6 ≤ k ∧ k ≤ p + 10) → ¬ (p + 13 ≤ k ∧ k ≤ p + 16) → ¬ k = n0 + 1 → SameO S T k) ∧ (∀ g k, k < n0 + 2 → sr T g k = sr S g k) ∧ ∀ k, k < n0 + 2 → ln T k = ln S k
section Pf
variable {p n0 : Nat} {S T : St}
theorem PqF.rf : PqF p n0 S S := ⟨fun k _ _ _ _ => SameO.rf S k, fun _ _ _ => rfl, fun _ _ => rfl⟩
theorem PqF.tr {U : St} (h : PqF p n0 S T) (g : PqF p n0 T U) : PqF p n0 S U := ⟨fun k a b c d => (h.1 k a b c d).tr (g.1 k a b c d), fun f k a => (g.2.1 f k a).trans (h.2.1 f k a), fun k a => (g.2.2 k a).trans (h.2.2 k a)⟩
theorem PqF.of (h : ∀ k, k < n0 + 2 → ¬ (p + 6 ≤ k ∧ k ≤ p + 10) → ¬ (p + 13 ≤ k ∧ k ≤ p + 16) → ¬ k = n0 + 1 → SameO S T k) (h2 : sr T = sr S) (h3 : ln T = ln S) : PqF p n0 S T := ⟨h, fun _ _ _ => by rw [h2], fun _ _ => by rw [h3]⟩
theorem PqF.fx (h : PqF p n0 S T) (hp : p = 27) (hn : 197 ≤ n0) (x : FxF S) : FxF T := x.agr (fun f i _ hi => h.2.1 f i (by omega)) (fun i hi => h.2.2 i (by omega)) (h.1 69 (by omega) (by omega) (by omega) (by omega)).2.2.2.2.1
theorem PqF.sp (h : PqF p n0 S T) (hp : p = 27) (hn : 197 ≤ n0) (x : SpF S p) : SpF T p := ⟨fun q hq => by rw [h.2.1 _ _ (by have := spR_le q hq; omega)]; exact x.1 q hq, fun q hq => by rw [h.2.2 _ (by have := spL_le2 q hq; omega)]; exact x.2 q hq⟩
theorem PqF.inp {f : Nat → Int32} {L : Nat} (h : PqF p n0 S T) (hp : p = 27) (hn : 197 ≤ n0) (x : Inp S f L) : Inp T f L := ⟨x.1, ((h.1 20 (by omega) (by omega) (by omega) (by omega)).1 1).trans x.2.1, fun i hi => by rw [(h.1 21 (by omega) (by omega) (by omega) (by omega)).row]; exact x.2.2 i hi⟩
theorem PqF.cut {f : Nat → Int32} {L : Nat} (h : PqF p n0 S T) (hp : p = 27) (hn : 197 ≤ n0) (x : Cut S f L) : Cut T f L := ⟨((h.1 24 (by omega) (by omega) (by omega) (by omega)).1 103).trans x.1, fun j hj => by rw [(h.1 25 (by omega) (by omega) (by omega) (by omega)).row, (h.1 26 (by omega) (by omega) (by omega) (by omega)).row]; exact x.2 j hj⟩
end Pf
/-- what holds on the way -/
def Pq (S1 : St) (p m n0 i : Nat) (N : Nat → Int32) (pj : Nat → Nat) (X Y : Nat → Int32) (T : St) (nT : Nat) : Prop :=
  PqF p n0 S1 T ∧ n0 + 2 ≤ nT ∧ Pt T nT p X Y ∧ (∀ q, q < kN X 8 → ∃ j, ar T (p + 7) q = some j ∧ (j + 2 ≤ n0 ∨ n0 + 2 ≤ j) ∧ 197 ≤ j ∧ j + 2 ≤ nT) ∧
  (si T 801 (p + 6) = nI (cntP (fun q => isN X q = 1) (kN X 8)) ∧ si T 802 (p + 6) = nI (cntP (fun q => isN X q = 1 ∧ ¬ deN X q = -1) (kN X 8))) ∧
  (∀ q, q < kN X 8 → fmI N pj m i q (ai T (p + 8) q) ∧ ai T (p + 9) q = nI (kpC N pj m i q)) ∧ CJ T p X ∧ ∀ j, j < i → ai T (n0 + 1) j = nI (pj j)
theorem Pt.net {S T : St} {n p : Nat} {X X' Y : Nat → Int32} (P : Pt S n p X Y) (k8 : kN X' 8 = kN X 8) (s8 : si T 800 (p + 6) = si S 800 (p + 6)) (h7 : ar T (p + 7) = ar S (p + 7)) (hj : ∀ q, q < kN X 8 → ∃ j, ar S (p + 7) q = some j ∧ SameO S T j ∧ SameO S T (j + 1))
    (hq : ∀ q, q < kN X 8 → isN X' q = isN X q ∧ kN X' (4771 + 3 * q) = kN X (4771 + 3 * q) ∧ ((deN X' q = deN X q ∧ ai T (p + 10) q = ai S (p + 10) q) ∨ (isN X q = 1 ∧ deN X' q = -1 ∧ ai T (p + 10) q = -1))) : Pt T n p X' Y := by
  refine ⟨by rw [k8, s8]; exact P.1, by rw [k8]; exact P.2.1, fun q h => ?_⟩
  rw [k8] at h
  obtain ⟨⟨j, a1, a2, a3, a4, a5, a6⟩, b, c, d⟩ := P.2.2 q h
  obtain ⟨j', e1, e2, e3⟩ := hj q h
  obtain ⟨g1, g2, g3⟩ := hq q h
  obtain rfl : j = j' := by rw [a1] at e1; exact Option.some.inj e1
  rw [g2, g1]
  refine ⟨⟨j, by rw [h7]; exact a1, a2, (e2.2.1 0).trans a3, e3.2.2.2.2.2.trans a4, (e2.1 1).trans a5, fun k hk => by rw [e3.row]; exact a6 k hk⟩, ?_, ?_, d⟩
  · rcases g3 with g | g
    · rw [g.1, g.2]; exact b
    · rw [g.2.2, if_pos g.1, g.2.1]
  · rcases g3 with g | g
    · rw [g.1]; exact c
    · rw [g.2.1]; decide
section Pg
variable {F : Nat} {S : St} {n p : Nat} {X Y : Nat → Int32}
theorem p_isDead (hs : SpF S p) (P : Pt S n p X Y) {q : Nat} (hq : q < kN X 8) : f_X9_isDead F S (p + 6) (nI q) = some (bI (isN X q = 1 ∧ ¬ deN X q = -1), S) := by
  have b8 := P.2.1
  unfold f_X9_isDead
  rw [p_isStored hs P hq, ob_some]
  simp only [lt_eq, eq_bI]
  by_cases e : isN X q = 1
  · rw [if_pos e, hs.r806_6, ob_some, e_at (by rw [hs.l10]; omega) (by rw [hs.l10]; omega), ob_some, (P.2.2 q hq).2.1, if_pos e]
    by_cases d : deN X q = -1
    · rw [if_pos d, bI_f (fun z => z.2 d)]
    · rw [if_neg d, bI_t ⟨e, d⟩]
  · rw [if_neg e, bI_f (fun z => e z.1)]
theorem Pt.uai {k x : Nat} {v : Int32} (P : Pt S n p X Y) (h : ¬ x = p + 10) (hj : ∀ q, q < kN X 8 → ∃ j, ar S (p + 7) q = some j ∧ ¬ j = x ∧ ¬ j + 1 = x) : Pt (uai S x k v) n p X Y :=
  P.net rfl rfl rfl (fun q hq => by obtain ⟨j, a, b, c⟩ := hj q hq; exact ⟨j, a, SameO.uai _ b, SameO.uai _ c⟩) (fun q hq => ⟨rfl, rfl, Or.inl ⟨rfl, by rw [ai_uai, if_neg (fun y => h y.1.symm)]⟩⟩)
theorem e_addKeeper {q c : Nat} (hs : SpF S p) (P : Pt S n p X Y) (hj : ∀ q, q < kN X 8 → ∃ j, ar S (p + 7) q = some j ∧ ¬ j = p + 9 ∧ ¬ j + 1 = p + 9) (hq : q < kN X 8) (hc : c < 1000) (ha : ai S (p + 9) q = nI c) :
    f_X9_addKeeper F S (p + 6) (nI q) = some (if isN X q = 1 ∧ ¬ deN X q = -1 then 1 else 0, if isN X q = 1 ∧ ¬ deN X q = -1 then ui (uai (uai S (p + 9) q (nI (c + 1))) (p + 10) q (-1)) 802 (p + 6) (si S 802 (p + 6) - 1) else uai S (p + 9) q (nI (c + 1))) := by
  have b8 := P.2.1
  have l9 := hs.l9
  have l10 := hs.l10
  have P1 : Pt (uai S (p + 9) q (nI (c + 1))) n p X Y := P.uai (by omega) hj
  have hs1 : SpF (uai S (p + 9) q (nI (c + 1))) p := hs
  unfold f_X9_addKeeper
  rw [hs.r805_6, ob_some, ob_some, e_at (by omega) (by omega), ob_some, ha]
  simp only [lt_eq]
  rw [nI_1, e_put _ (by omega) (by omega), ob_some, p_isDead hs1 P1 hq, ob_some]
  simp only [lt_eq]
  by_cases z : isN X q = 1 ∧ ¬ deN X q = -1
  · rw [bI_t z, if_pos (show ¬ (1 : Int32) = 0 by decide), if_pos z, if_pos z, sr_uai, hs.r806_6, ob_some, e_put _ (by rw [ln_uai]; omega) (by rw [ln_uai]; omega), ob_some]
    rfl
  · rw [bI_f z, if_neg (show ¬ ¬ (0 : Int32) = 0 by decide), if_neg z, if_neg z]
end Pg
