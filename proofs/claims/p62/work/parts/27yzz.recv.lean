section Rv
variable {F : Nat} {S : St} {f N B : Nat → Int32} {L n m : Nat}
theorem Pq.to {T U : St} {p n0 i nT : Nat} {pj : Nat → Nat} {X Y : Nat → Int32} (hp : p = 27) (hn : 197 ≤ n0) (I : Pq S p m n0 i N pj X Y T nT) (e : ∀ k, ¬ k = p → ¬ (p + 2 ≤ k ∧ k ≤ p + 5) → ¬ k = n0 → SameO T U k) : Pq U p m n0 i N pj X Y U nT := by
  obtain ⟨i1, i2, i3, i4, ⟨i5, i6⟩, i7, i8, i9⟩ := I
  have a7 : ar U (p + 7) = ar T (p + 7) := (e _ (by omega) (by omega) (by omega)).2.2.2.2.1
  have e6 := e (p + 6) (by omega) (by omega) (by omega)
  refine ⟨PqF.rf, i2, i3.net rfl (e6.1 800) a7 (fun q hq => ?_) (fun q hq => ⟨rfl, rfl, Or.inl ⟨rfl, by rw [(e (p + 10) (by omega) (by omega) (by omega)).row]⟩⟩), fun q hq => by rw [a7]; exact i4 q hq, ⟨(e6.1 801).trans i5, (e6.1 802).trans i6⟩, fun q hq => ?_, i8.agr (fun k a b => e k (by omega) (by omega) (by omega)), fun j hj => ?_⟩
  · obtain ⟨j, a, b, c, d⟩ := i4 q hq
    exact ⟨j, a, e j (by omega) (by omega) (by omega), e _ (by omega) (by omega) (by omega)⟩
  · rw [(e (p + 8) (by omega) (by omega) (by omega)).row, (e (p + 9) (by omega) (by omega) (by omega)).row]
    exact i7 q hq
  · rw [(e (n0 + 1) (by omega) (by omega) (by omega)).row]; exact i9 j hj
/-- the message's object -/
theorem e_msgN {K sz sn : Nat} {d : Int32} (hK : K ≤ 4) : ∃ T, f_X4_init F (nob S n) (n + 1) n (nI sn) d (nI sz) (nI K) = some (T, n + 2) ∧ (∀ k, ¬ k = n → ¬ k = n + 1 → SameO S T k) ∧ sr T 303 n = some (n + 1) ∧ ln T (n + 1) = K ∧ si T 300 n = nI sn ∧ si T 301 n = d ∧ si T 302 n = nI sz := by
  obtain ⟨T, hT⟩ : ∃ T, T = ur (nar (ui (ui (ui (nob S n) 300 n (nI sn)) 301 n d) 302 n (nI sz)) (n + 1) K) 303 n (some (n + 1)) := ⟨_, rfl⟩
  refine ⟨T, ?_, fun k a b => ?_, ?_, ?_, ?_, ?_, ?_⟩
  · unfold f_X4_init
    have mx : (if (0 : Int32) < nI K then nI K else (0 : Int32)) = nI K := by
      by_cases z : K = 0
      · rw [z]; rfl
      · rw [if_pos (show (0 : Int32) < nI K from nI_lt (a := 0) (by omega) (by omega))]
    rw [mx, nI_clamp (by omega)]
    simp only [lt_eq]
    rw [ck_t ⟨nI_pos (by omega), hK⟩, ← hT]
  · rw [hT]
    exact (((((SameO.nob a).tr (SameO.ui _ a)).tr (SameO.ui _ a)).tr (SameO.ui _ a)).tr (SameO.nar b)).tr (SameO.ur _ a)
  · rw [hT, sr_ur, if_pos ⟨rfl, rfl⟩]
  · rw [hT]
    show ln (nar _ (n + 1) K) (n + 1) = K
    rw [ln_nar, if_pos rfl]
  · rw [hT]
    show si (ui (ui (ui (nob S n) 300 n (nI sn)) 301 n d) 302 n (nI sz)) 300 n = _
    rw [si_ui, if_neg (by omega), si_ui, if_neg (by omega), si_ui, if_pos ⟨rfl, rfl⟩]
  · rw [hT]
    show si (ui (ui (ui (nob S n) 300 n (nI sn)) 301 n d) 302 n (nI sz)) 301 n = _
    rw [si_ui, if_neg (by omega), si_ui, if_pos ⟨rfl, rfl⟩]
  · rw [hT]
    show si (ui (ui (ui (nob S n) 300 n (nI sn)) 301 n d) 302 n (nI sz)) 302 n = _
    rw [si_ui, if_pos ⟨rfl, rfl⟩]
/-- from the places on -/
theorem e_stored {sn rb : Nat} {c : Int32} (g : Cl S n 27 N B) (hx : FxF S) (hi : Inp S f L) (hc : Cut S f L) (hg : gdC f L) (hn : 197 ≤ n) (hm : m < 120) (k7 : kN N 7 = m) (hsn : sn ≤ 10) {b2 : Nat} (h702 : si S 702 27 = nI b2) {rec : Nat} (hrc : rec < 1024) (hrb : rb = rec &&& (1023 ^^^ b2))
    (hrd : ∃ u, u < kN N 4 ∧ rb.testBit u = true) (hrn : ∀ u, rb.testBit u = true → u < kN N 4) (hcl : c = -1 ∨ ∃ cc, c = nI cc ∧ cc < kN N 3) (hF : 10000 ≤ F) :
    ∃ T nT, (lt (nob S n) fun S247 => lt (n + 1) fun n248 =>
      Option.bind (f_X1_sizeOfAll F S247 24) fun z250 => lt z250.1 fun r252 => lt z250.2 fun S251 =>
      Option.bind (f_X4_init F S251 n248 n (nI sn) (si S247 701 27) r252 (si S251 103 24)) fun z254 => lt z254.1 fun S255 => lt z254.2 fun n257 => plG F 27 (nI rec) c (nI m) n 0 S255 n257) = some (nI m, T, nT) ∧ n ≤ nT ∧
      Cl T nT 27 (lgN (nwN m sn f L N B (fun u => rb.testBit u = true) (fun u => if c = -1 then N (83 + 8 * u) else c)) 1 (nI m)) (ptN m f L N B (kC f L)).2 ∧ (∀ k, k < n → ¬ (27 ≤ k ∧ k ≤ 47) → SameO S T k) ∧ (∀ g k, k < n → sr T g k = sr S g k) ∧ (∀ k, k < n → ln T k = ln S k) ∧ ar T 29 m = some n ∧ ∀ x, ¬ x = m → ar T 29 x = ar S 29 x := by
  have g1 := hg.1
  have g0 := kC_1 (f := f) (L := L)
  have W := g.c0.wf
  have wb := g.c0.wb
  have w := W.wp
  have b4 := wb.n4.2
  have b6 := wb.n6.2
  have n2 : kN N 2 ≤ 20000 := by rcases g.dy with y | y; omega; exact y
  have h8 : kN N 8 ≤ 4 * m := by rw [← k7]; exact W.2.1.2.2.2.2.2.2.2
  have hs := hx.sp27
  have n701 : si S 701 27 = N 2 := g.c0.s701
  -- the object
  have x0 : FxF (nob S n) := hx.same (fun i hi => SameO.nob (by omega))
  have c0 : Cut (nob S n) f L := ⟨((SameO.nob (S := S) (n := n) (i := 24) (by omega)).1 103).trans hc.1, hc.2⟩
  obtain ⟨S1, a1, a2, a3, a4, a5, a6, a7⟩ := e_msgN (F := F) (S := S) (n := n) (sn := sn) (d := N 2) (sz := szC f L (kC f L)) g1
  have low : ∀ k, k < n → SameO S S1 k := fun k h => a2 k (by omega) (by omega)
  have x1 : FxF S1 := hx.same (fun i hi => low i (by omega))
  have hs1 := x1.sp27
  have i1 : Inp S1 f L := ⟨hi.1, ((low 20 (by omega)).1 1).trans hi.2.1, fun i h => by rw [(low 21 (by omega)).row]; exact hi.2.2 i h⟩
  have c1 : Cut S1 f L := ⟨((low 24 (by omega)).1 103).trans hc.1, fun j hj => by rw [(low 25 (by omega)).row, (low 26 (by omega)).row]; exact hc.2 j hj⟩
  have ho : ∀ m' q, m' < m → hasN N m' q → q < kN N 8 := fun m' q h y => by
    obtain ⟨i, p1, p2⟩ := y
    obtain ⟨-, -, -, -, -, mp⟩ := W.wM m' (by omega)
    rw [← p2]; exact (mp i p1).2
  have base := Pq.base (m := m) (n0 := n) (T := S1) rfl W k7 (pjN m f L N B) g.c0.pt g.c0.cp g.cj hn low
  obtain ⟨T3, n3, q1, P, I⟩ := e_places (F := F) (f := f) (L := L) (v3 := nI rec) (v4 := c) rfl hn hs1 x1 i1 c1 hg a3 a4 (by rw [(low 27 (by omega)).1]; exact n701) w ho hm h8 hF (kC f L) 0 S1 (n + 2) (by omega) (PF.base W k7 _) base
  obtain ⟨w1, w2, w3, w4⟩ := ptN_w (B := B) w hm hg h8 (kC f L) (Nat.le_refl _)
  have kp := (ptN_k (B := B) w hm hg h8 (kC f L) (Nat.le_refl _)).2
  have hcl' : ∀ u, u < kN N 4 → ∃ cc, (if c = -1 then N (83 + 8 * u) else c) = nI cc ∧ cc < kN N 3 := fun u hu => by
    by_cases z : c = -1
    · rw [if_pos z]
      obtain ⟨y1, y2, -⟩ := W.wU u hu
      exact ⟨_, y1.1, y2⟩
    · rw [if_neg z]
      rcases hcl with y | y
      · exact absurd y z
      · exact y
  obtain ⟨H, hH⟩ : ∃ H, H = nwN m sn f L N B (fun u => rb.testBit u = true) (fun u => if c = -1 then N (83 + 8 * u) else c) := ⟨_, rfl⟩
  have WH : WF H (ptN m f L N B (kC f L)).2 := by rw [hH]; exact nw_wf W k7 hm hg n2 hsn P hrd hrn hcl'
  have lo : ∀ k, k < 331 → ¬ k = 7 → ¬ k = 8 → ¬ k = 9 → H k = N k := fun k a b c d => by rw [hH]; exact nw_lo w hm hg h8 a b c d
  have ex : EqX (fun k => k = 7 ∨ k = 8 ∨ 331 ≤ k) N H := by rw [hH]; exact nw_x w hm hg h8 True.intro
  have f3 := I.1
  have hs3 := f3.sp rfl hn hs1
  have x3 := f3.fx rfl hn x1
  -- entered
  obtain ⟨T5, hT5⟩ : ∃ T5, T5 = ui (uar T3 29 m (some n)) 705 27 (nI (m + 1)) := ⟨_, rfl⟩
  have s5 : ∀ k, ¬ k = 27 → ¬ k = 29 → SameO T3 T5 k := fun k a b => by rw [hT5]; exact (SameO.uar _ b).tr (SameO.ui _ a)
  have sr5 : sr T5 = sr T3 := by rw [hT5]; rfl
  have ln5 : ln T5 = ln T3 := by rw [hT5]; rfl
  have hs5 : SpF T5 27 := ⟨fun q hq => by rw [sr5]; exact hs3.1 q hq, fun q hq => by rw [ln5]; exact hs3.2 q hq⟩
  have I5 : Pq T5 27 m n (kC f L) N (pjN m f L N B) (ptN m f L N B (kC f L)).1 (ptN m f L N B (kC f L)).2 T5 n3 := I.to rfl hn (fun k a b _ => s5 k a (by omega))
  have si27 : ∀ g, ¬ g = 705 → si T5 g 27 = si S g 27 := fun g h => by
    rw [hT5, si_ui, if_neg (fun y => h y.1)]
    show si T3 g 27 = _
    rw [(f3.1 27 (by omega) (by omega) (by omega) (by omega)).1, (low 27 (by omega)).1]
  have s705 : si T5 705 27 = nI (m + 1) := by rw [hT5, si_ui, if_pos ⟨rfl, rfl⟩]
  have ar29 : ar T5 29 m = some n ∧ ∀ x, ¬ x = m → ar T5 29 x = ar S 29 x := by
    have : ∀ x, ar T5 29 x = if x = m then some n else ar S 29 x := fun x => by
      rw [hT5]
      show ar (uar T3 29 m (some n)) 29 x = _
      rw [ar_uar, (f3.1 29 (by omega) (by omega) (by omega) (by omega)).2.2.2.2.1, (low 29 (by omega)).2.2.2.2.1]
      by_cases y : x = m
      · rw [if_pos ⟨rfl, y⟩, if_pos y]
      · rw [if_neg (fun t => y t.2), if_neg y]
    exact ⟨by rw [this, if_pos rfl], fun x h => by rw [this, if_neg h]⟩
  have ob5 : SameO S1 T5 n := (f3.1 n (by omega) (by omega) (by omega) (by omega)).tr (s5 n (by omega) (by omega))
  have r5 : sr T5 303 n = some (n + 1) := (ob5.2.1 303).trans a3
  have l5 : ln T5 (n + 1) = kC f L := by rw [ln5, f3.2.2 (n + 1) (by omega)]; exact a4
  have row5 : ∀ i, i < kC f L → ai T5 (n + 1) i = nI (pjN m f L N B i) ∧ pjN m f L N B i < kN (ptN m f L N B (kC f L)).1 8 := fun i h => ⟨I5.2.2.2.2.2.2.2 i h, (P.2.2 i h).1⟩
  obtain ⟨r, ru1, ru2, ru3⟩ := g.c0.ru
  have same5 : ∀ k, k < n → ¬ k = 27 → ¬ k = 29 → ¬ (33 ≤ k ∧ k ≤ 37) → ¬ (40 ≤ k ∧ k ≤ 43) → SameO S T5 k := fun k h a b c d => ((low k h).tr (f3.1 k (by omega) (by omega) (by omega) (by omega))).tr (s5 k a b)
  have cr5 : CR T5 r H := by
    refine x7_cr ex (fun _ z => z) wb (ru3.agr (fun i a b => ?_))
    rcases ru2 with y | ⟨y1, y2⟩
    · exact same5 i (by omega) (by omega) (by omega) (by omega) (by omega)
    · exact same5 i (by omega) (by omega) (by omega) (by omega) (by omega)
  have ru5 : sr T5 700 27 = some r := by rw [sr5, f3.2.1 700 27 (by omega), (low 27 (by omega)).2.1]; exact ru1
  have v2 : H 2 = N 2 := lo 2 (by omega) (by omega) (by omega) (by omega)
  have n2c : isCnt H 2 20000 := by
    unfold isCnt kN
    rw [v2]
    exact ⟨wb.n2.1, n2⟩
  have mm : manyN H m = kC f L := by
    have e : H (333 + 7 * m) = nI (kC f L) := by rw [hH]; exact hy_m
    unfold manyN kN
    rw [e, nI_clamp (by omega)]
  have b8 := w1.1.2
  have pe : ∀ i, i < kC f L → partN H m i = pjN m f L N B i := fun i h => by
    have e : H (334 + 7 * m + i) = nI (pjN m f L N B i) := by rw [hH, nw_X hm (by omega) (by omega) (by omega)]; exact kp i h
    have := (row5 i h).2
    unfold partN kN
    rw [e, nI_clamp (by omega)]
  have hW : ∀ wl cc, 1 ≤ cc → cc ≤ 10 → (∀ k, k < cc → letB (wl k)) → f_X8_hasWord F T5 27 (nI m) (lN (wv wl cc)) = some (pI (contB H (ptN m f L N B (kC f L)).2 m wl cc), T5) := by
    intro wl cc h1 h2 h3
    rw [p_hasWord (F := F) hs5 I5.2.2.1 s705 hm ar29.1 r5 l5 g1 row5 h1 h2 h3 (by omega), pI_c]
    unfold contB
    rw [mm]
    have at_ : ∀ i k, i < kC f L → (atB H (ptN m f L N B (kC f L)).2 (partN H m i) wl cc k ↔ atB (ptN m f L N B (kC f L)).1 (ptN m f L N B (kC f L)).2 (pjN m f L N B i) wl cc k) := fun i k h => by
      have lt := (row5 i h).2
      rw [pe i h]
      have kq : kN H (4771 + 3 * pjN m f L N B i) = kN (ptN m f L N B (kC f L)).1 (4771 + 3 * pjN m f L N B i) := by
        unfold kN
        rw [hH, nw_X hm (by omega) (by omega) (by omega)]
      unfold atB
      rw [kq]
    exact ⟨fun ⟨i, k, a, b⟩ => ⟨i, k, a, (at_ i k a).mpr b⟩, fun ⟨i, k, a, b⟩ => ⟨i, k, a, (at_ i k a).mp b⟩⟩
  obtain ⟨msk, k1, k2, k3⟩ := e_asking (F := F) (B := (ptN m f L N B (kC f L)).2) ru5 cr5 WH.wH WH.wb.n6 (by rw [si27 701 (by omega), v2]; exact n701) n2c (by rw [v2, hH]; exact hy_d) hW (by omega)
  obtain ⟨T6, hT6⟩ : ∃ T6, T6 = ui T5 304 n (nI msk) := ⟨_, rfl⟩
  have s6 : ∀ k, ¬ k = n → SameO T5 T6 k := fun k a => by rw [hT6]; exact SameO.ui _ a
  have hs6 : SpF T6 27 := by rw [hT6]; exact hs5
  have ru6 : sr T6 700 27 = some r := by rw [hT6]; exact ru5
  have r8 : ¬ r + 8 = 27 + 3 ∧ ¬ r + 8 = 27 + 4 ∧ ¬ r + 8 = 27 + 5 := by
    rcases ru2 with y | ⟨y1, y2⟩ <;> omega
  have cr6 : CR T6 r H := cr5.agr (fun i a b => s6 i (by rcases ru2 with y | ⟨y1, y2⟩ <;> omega))
  have hrb2 : rb < 1024 := by rw [hrb]; exact Nat.lt_of_le_of_lt Nat.and_le_left hrc
  obtain ⟨T7, t1, t2, t3, t4, t5, t6, t7⟩ := e_addRefs (F := F) (c := c) (v := N 2) hs6 ru6 r8 cr6 hrb2 hm (by rw [(s6 27 (by omega)).1, si27 701 (by omega)]; exact n701) (by omega)
  have s57 : ∀ k, ¬ k = 30 → ¬ k = 31 → ¬ k = 32 → ¬ k = n → SameO T5 T7 k := fun k a b c d => (s6 k d).tr (t2 k a b c)
  have e7 : ∀ k, k < n → ¬ k = 27 → ¬ (27 + 2 ≤ k ∧ k ≤ 27 + 10) → ¬ (27 + 13 ≤ k ∧ k ≤ 27 + 16) → SameO S T7 k := fun k h a b c => (same5 k h a (by omega) (by omega) (by omega)).tr (s57 k (by omega) (by omega) (by omega) (by omega))
  have s27 : SameO T5 T7 27 := s57 27 (by omega) (by omega) (by omega) (by omega)
  have I7 : Pq T7 27 m n (kC f L) N (pjN m f L N B) (ptN m f L N B (kC f L)).1 (ptN m f L N B (kC f L)).2 T7 n3 := I5.to rfl hn (fun k _ b d => s57 k (by omega) (by omega) (by omega) d)
  have o6 : ∀ g, ¬ g = 304 → si T7 g n = si S1 g n := fun g h => by
    rw [t5, hT6, si_ui, if_neg (fun y => h y.1)]
    exact ob5.1 g
  have old345 : ∀ k, k = 30 ∨ k = 31 ∨ k = 32 → ai T6 k = ai S k := fun k h => by rw [(s6 k (by omega)).row, (same5 k (by omega) (by omega) (by omega) (by omega) (by omega)).row]
  have C7 : Cl T7 n3 27 H (ptN m f L N B (kC f L)).2 := by
    rw [hH]
    refine Cl_new (f := f) (L := L) g rfl hn k7 hm hg hsn P hrd hrn hcl' e7 (by rw [t3, hT6]; show sr T5 700 27 = _; rw [ru5]; exact ru1.symm) ⟨(s27.1 701).trans (si27 701 (by omega)), (s27.1 702).trans (si27 702 (by omega)), (s27.1 703).trans (si27 703 (by omega)), (s27.1 705).trans s705⟩ ?_ ?_ ?_ ⟨(o6 300 (by omega)).trans a5, (o6 301 (by omega)).trans a6, (o6 302 (by omega)).trans a7⟩ ?_ ?_ ?_ I7
    · have : ar T7 29 = ar T5 29 := (s57 29 (by omega) (by omega) (by omega) (by omega)).2.2.2.2.1
      show ar T7 29 m = some n ∧ ∀ x, ¬ x = m → ar T7 29 x = ar S 29 x
      rw [this]; exact ar29
    · rw [t3, hT6]; exact r5
    · rw [t4, hT6]; exact l5
    · refine ⟨msk, by rw [t5, hT6, si_ui, if_pos ⟨rfl, rfl⟩], k2, ?_⟩
      rw [← hH]; exact k3
    · intro u hu
      obtain ⟨p1, p2, p3⟩ := t6 u hu
      refine ⟨p1, fun h4 => ?_, p3⟩
      rw [p2]
      have : ai T6 (r + 8) u = N (83 + 8 * u) := by
        rw [(cr6.2.2.2.1 u (by rw [show kN H 4 = kN N 4 by unfold kN; rw [lo 4 (by omega) (by omega) (by omega) (by omega)]]; exact h4)).1, lo _ (by omega) (by omega) (by omega) (by omega)]
      rw [this]
    · intro k hk
      obtain ⟨p1, p2, p3⟩ := t7 k hk
      rw [p1, p2, p3, old345 (27 + 3) (by omega), old345 (27 + 4) (by omega), old345 (27 + 5) (by omega)]
      exact ⟨rfl, rfl, rfl⟩
  have hs7 : SpF T7 27 := ⟨fun q hq => by rw [t3]; exact hs6.1 q hq, fun q hq => by rw [t4]; exact hs6.2 q hq⟩
  obtain ⟨T8, u1, u2, u3, u4, u5⟩ := C7.note (F := F) (by omega) hs7 1 (nI m)
  have s701 : si T7 701 27 = H 2 := C7.c0.s701
  refine ⟨T8, n3, ?_, by have := I.2.1; omega, ?_, fun k h a => ?_, fun g k h => ?_, fun k h => ?_, ?_⟩
  · rw [lt_eq, lt_eq, e_sizeOfAll x0 c0 hg (by omega), ob_some]
    simp only [lt_eq]
    rw [show si (nob S n) 701 27 = N 2 by rw [si_nob, if_neg (by omega)]; exact n701, c0.1, a1, ob_some]
    simp only [lt_eq]
    rw [q1]
    have r706 : sr T3 706 27 = some 29 := hs3.r706_0
    have l29 : ln T3 29 = 120 := hs3.l2
    unfold f_X8_receive_L600132
    rw [if_neg (nI_pos (by omega)), r706, ob_some, l29, if_neg (nI_ge (by omega) (by omega)), ob_some, l29, cki_nI (by omega) (by omega), nI_clamp (by omega), lt_eq]
    unfold f_X8_receive_L600156
    have m705 : si (uar T3 29 m (some n)) 705 27 = nI m := by
      show si T3 705 27 = _
      rw [(f3.1 27 (by omega) (by omega) (by omega) (by omega)).1, (low 27 (by omega)).1, g.c0.s705, k7]
    rw [m705, nI_1, ← hT5, lt_eq, k1, ob_some]
    simp only [lt_eq]
    rw [← hT6, show si T6 702 27 = nI b2 by rw [(s6 27 (by omega)).1, si27 702 (by omega)]; exact h702, off_eq _ _ hrc, ← hrb, t1, ob_some, hs7.r711_0, ob_some, s701, u1, ob_some]
  · rw [← hH]; exact u2
  · exact (e7 k h (by omega) (by omega) (by omega)).tr (u3 k (by omega))
  · rw [u4, t3, hT6]
    show sr T5 g k = _
    rw [sr5, f3.2.1 g k (by omega), (low k h).2.1]
  · rw [u5, t4, hT6]
    show ln T5 k = _
    rw [ln5, f3.2.2 k (by omega), (low k h).2.2.2.2.2]
  · have e1 : ar T8 29 = ar T5 29 := ((u3 29 (by omega)).2.2.2.2.1).trans (s57 29 (by omega) (by omega) (by omega) (by omega)).2.2.2.2.1
    rw [e1]; exact ar29
end Rv
