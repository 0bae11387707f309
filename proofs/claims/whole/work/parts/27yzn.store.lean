/-! the parts of a new message are stored: the model -/
/-- the bytes of a new part -/
def byU (B f : Nat → Int32) (q a l : Nat) : Nat → Int32 := fun k => if 200 * q ≤ k ∧ k < 200 * q + l then f (a + (k - 200 * q)) else B k
/-- the part of a place is found or stored -/
noncomputable def pt1 (N B f : Nat → Int32) (L j : Nat) : (Nat → Int32) × (Nat → Int32) :=
  if nbC N B f L j < kN N 8 then (if deN N (nbC N B f L j) = -1 then N else lgN (upd N (4773 + 3 * nbC N B f L j) (-1)) 7 (nI (nbC N B f L j)), B)
  else (upd (upd (upd (upd N (4771 + 3 * kN N 8) (nI (lC f L j))) (4772 + 3 * kN N 8) 1) (4773 + 3 * kN N 8) (-1)) 8 (nI (kN N 8 + 1)), byU B f (kN N 8) (cC f L j) (lC f L j))
noncomputable def ptM (m : Nat) (f : Nat → Int32) (L : Nat) (a : (Nat → Int32) × (Nat → Int32)) (j : Nat) : (Nat → Int32) × (Nat → Int32) := (upd (pt1 a.1 a.2 f L j).1 (334 + 7 * m + j) (nI (nbC a.1 a.2 f L j)), (pt1 a.1 a.2 f L j).2)
noncomputable def ptN (m : Nat) (f : Nat → Int32) (L : Nat) (N B : Nat → Int32) (x : Nat) : (Nat → Int32) × (Nat → Int32) := runN (fun j a => ptM m f L a j) x 0 (N, B)
/-- what storing needs of a net -/
def Wp (N : Nat → Int32) : Prop := isCnt N 8 480 ∧ isCnt N 9 60 ∧ ∀ q, q < kN N 8 → isCnt N (4771 + 3 * q) 200
section Pn
variable {N B f : Nat → Int32} {L m j : Nat}
theorem ptN_0 : ptN m f L N B 0 = (N, B) := rfl
theorem ptN_s {x : Nat} : ptN m f L N B (x + 1) = ptM m f L (ptN m f L N B x) x := by
  unfold ptN
  rw [runN_s, Nat.zero_add]
theorem nbC_le : nbC N B f L j ≤ kN N 8 := by
  unfold nbC
  have := (fnd_sp (P := lkP N B f L j) (kN N 8) 0).2.1
  omega
/-- what stays of a net -/
theorem pt1_lo {k : Nat} (b8 : kN N 8 ≤ 480) (h : k < 4771) (h8 : ¬ k = 8) (h9 : ¬ k = 9) : (pt1 N B f L j).1 k = N k := by
  have nb := nbC_le (N := N) (B := B) (f := f) (L := L) (j := j)
  unfold pt1
  by_cases z : nbC N B f L j < kN N 8
  · rw [if_pos z]
    show (if deN N (nbC N B f L j) = -1 then N else lgN (upd N (4773 + 3 * nbC N B f L j) (-1)) 7 (nI (nbC N B f L j))) k = N k
    by_cases z2 : deN N (nbC N B f L j) = -1
    · rw [if_pos z2]
    · rw [if_neg z2, lgN_lo (by omega) h9, upd_n (by omega)]
  · rw [if_neg z]
    show upd _ _ _ k = N k
    rw [upd_n h8, upd_n (by omega), upd_n (by omega), upd_n (by omega)]
theorem Wp.st (w : Wp N) (h8 : kN N 8 < 480) (hl : lC f L j ≤ 200) : Wp (pt1 N B f L j).1 ∧ kN (pt1 N B f L j).1 8 ≤ kN N 8 + 1 ∧ kN N 8 ≤ kN (pt1 N B f L j).1 8 ∧ (nbC N B f L j < kN (pt1 N B f L j).1 8) := by
  obtain ⟨w1, w2, w3⟩ := w
  have nb := nbC_le (N := N) (B := B) (f := f) (L := L) (j := j)
  unfold pt1
  by_cases z : nbC N B f L j < kN N 8
  · rw [if_pos z]
    show Wp (if deN N (nbC N B f L j) = -1 then N else lgN (upd N (4773 + 3 * nbC N B f L j) (-1)) 7 (nI (nbC N B f L j))) ∧ kN (if deN N (nbC N B f L j) = -1 then N else lgN (upd N (4773 + 3 * nbC N B f L j) (-1)) 7 (nI (nbC N B f L j))) 8 ≤ kN N 8 + 1 ∧ kN N 8 ≤ kN (if deN N (nbC N B f L j) = -1 then N else lgN (upd N (4773 + 3 * nbC N B f L j) (-1)) 7 (nI (nbC N B f L j))) 8 ∧ (nbC N B f L j < kN (if deN N (nbC N B f L j) = -1 then N else lgN (upd N (4773 + 3 * nbC N B f L j) (-1)) 7 (nI (nbC N B f L j))) 8)
    by_cases z2 : deN N (nbC N B f L j) = -1
    · rw [if_pos z2]; exact ⟨⟨w1, w2, w3⟩, by omega, by omega, z⟩
    · rw [if_neg z2]
      have e : ∀ k, k < 6211 → ¬ k = 9 → ¬ k = 4773 + 3 * nbC N B f L j → lgN (upd N (4773 + 3 * nbC N B f L j) (-1)) 7 (nI (nbC N B f L j)) k = N k := fun k a b c => by rw [lgN_lo a b, upd_n c]
      have ek : ∀ k, k < 6211 → ¬ k = 9 → ¬ k = 4773 + 3 * nbC N B f L j → kN (lgN (upd N (4773 + 3 * nbC N B f L j) (-1)) 7 (nI (nbC N B f L j))) k = kN N k := fun k a b c => by unfold kN; rw [e k a b c]
      have c9 : isCnt (upd N (4773 + 3 * nbC N B f L j) (-1)) 9 60 := by unfold isCnt kN; rw [upd_n (by omega)]; exact w2
      rw [ek 8 (by omega) (by omega) (by omega)]
      refine ⟨⟨?_, lgN_9 c9, fun q hq => ?_⟩, by omega, by omega, z⟩
      · unfold isCnt; rw [ek 8 (by omega) (by omega) (by omega), e 8 (by omega) (by omega) (by omega)]; exact w1
      · rw [ek 8 (by omega) (by omega) (by omega)] at hq
        unfold isCnt
        rw [ek _ (by omega) (by omega) (by omega), e _ (by omega) (by omega) (by omega)]
        exact w3 q hq
  · rw [if_neg z]
    show Wp (upd (upd (upd (upd N (4771 + 3 * kN N 8) (nI (lC f L j))) (4772 + 3 * kN N 8) 1) (4773 + 3 * kN N 8) (-1)) 8 (nI (kN N 8 + 1))) ∧ kN (upd (upd (upd (upd N (4771 + 3 * kN N 8) (nI (lC f L j))) (4772 + 3 * kN N 8) 1) (4773 + 3 * kN N 8) (-1)) 8 (nI (kN N 8 + 1))) 8 ≤ kN N 8 + 1 ∧ kN N 8 ≤ kN (upd (upd (upd (upd N (4771 + 3 * kN N 8) (nI (lC f L j))) (4772 + 3 * kN N 8) 1) (4773 + 3 * kN N 8) (-1)) 8 (nI (kN N 8 + 1))) 8 ∧ (nbC N B f L j < kN (upd (upd (upd (upd N (4771 + 3 * kN N 8) (nI (lC f L j))) (4772 + 3 * kN N 8) 1) (4773 + 3 * kN N 8) (-1)) 8 (nI (kN N 8 + 1))) 8)
    generalize hM : upd (upd (upd (upd N (4771 + 3 * kN N 8) (nI (lC f L j))) (4772 + 3 * kN N 8) 1) (4773 + 3 * kN N 8) (-1)) 8 (nI (kN N 8 + 1)) = M
    have e8 : M 8 = nI (kN N 8 + 1) := by rw [← hM, upd_e]
    have el : M (4771 + 3 * kN N 8) = nI (lC f L j) := by rw [← hM, upd_n (by omega), upd_n (by omega), upd_n (by omega), upd_e]
    have e : ∀ k, ¬ k = 8 → ¬ k = 4771 + 3 * kN N 8 → ¬ k = 4772 + 3 * kN N 8 → ¬ k = 4773 + 3 * kN N 8 → M k = N k := fun k a b c d => by rw [← hM, upd_n a, upd_n d, upd_n c, upd_n b]
    obtain ⟨c8, k8⟩ := isCnt_nI (b := 480) e8 (by omega) (by omega)
    obtain ⟨cl, kl⟩ := isCnt_nI (b := 200) el hl (by omega)
    rw [k8]
    refine ⟨⟨c8, ?_, fun q hq => ?_⟩, by omega, by omega, by omega⟩
    · unfold isCnt kN; rw [e 9 (by omega) (by omega) (by omega) (by omega)]; exact w2
    · rw [k8] at hq
      by_cases y : q = kN N 8
      · rw [y]; exact cl
      · unfold isCnt kN
        rw [e _ (by omega) (by omega) (by omega) (by omega)]
        exact w3 q (by omega)
theorem Wp.up (w : Wp N) {i : Nat} (h : 10 ≤ i ∧ i < 4771) (v : Int32) : Wp (upd N i v) := by
  have e : ∀ k, ¬ k = i → upd N i v k = N k := fun k a => upd_n a
  have ek : ∀ k, ¬ k = i → kN (upd N i v) k = kN N k := fun k a => by unfold kN; rw [e k a]
  have ec : ∀ k b, ¬ k = i → (isCnt (upd N i v) k b ↔ isCnt N k b) := fun k b a => by unfold isCnt; rw [ek k a, e k a]
  refine ⟨(ec _ _ (by omega)).mpr w.1, (ec _ _ (by omega)).mpr w.2.1, fun q hq => ?_⟩
  rw [ek 8 (by omega)] at hq
  have := w.1.2
  exact (ec _ _ (by omega)).mpr (w.2.2 q hq)
/-- on the way -/
theorem ptN_w (w : Wp N) (hm : m < 120) (hg : gdC f L) (h8 : kN N 8 ≤ 4 * m) : ∀ x, x ≤ kC f L → Wp (ptN m f L N B x).1 ∧ kN (ptN m f L N B x).1 8 ≤ kN N 8 + x ∧ kN N 8 ≤ kN (ptN m f L N B x).1 8 ∧ ∀ k, k < 4771 → ¬ k = 8 → ¬ k = 9 → ¬ (334 + 7 * m ≤ k ∧ k < 334 + 7 * m + x) → (ptN m f L N B x).1 k = N k := by
  have g1 := hg.1
  intro x
  induction x with
  | zero => intro _; exact ⟨w, by show kN N 8 ≤ _; omega, Nat.le_refl _, fun k _ _ _ _ => rfl⟩
  | succ x ih =>
    intro hx
    obtain ⟨i1, i2, i3, i4⟩ := ih (by omega)
    obtain ⟨p1, p2, p3, -⟩ := i1.st (B := (ptN m f L N B x).2) (f := f) (L := L) (j := x) (by omega) (hg.2 x (by omega)).2
    have k8 : kN (ptN m f L N B (x + 1)).1 8 = kN (pt1 (ptN m f L N B x).1 (ptN m f L N B x).2 f L x).1 8 := by
      rw [ptN_s]
      show kN (upd _ _ _) 8 = _
      unfold kN
      rw [upd_n (by omega)]
    refine ⟨?_, by omega, by omega, fun k a b c d => ?_⟩
    · rw [ptN_s]; exact p1.up (by omega) _
    · rw [ptN_s]
      show upd _ _ _ k = N k
      rw [upd_n (by omega), pt1_lo (by omega) a b c]
      exact i4 k a b c (by omega)
end Pn
section Ms
variable {F : Nat} {S : St} {f : Nat → Int32} {L : Nat}
/-- what storing parts writes -/
def is98 (i : Nat) : Prop := i = 198 ∨ i = 200
theorem Mf.n98 {S T : St} (h : Net S T) : Mf no8 is98 S T := h.mono (fun k z => z) (fun k z => Or.inl z)
theorem MCut.fr {S T : St} (m : MCut S f L) (h : Mf no8 is98 S T) : MCut T f L := ⟨(h.2.1 1018 197 (fun z => z.2)).trans m.1, fun j hj => by rw [h.2.2.1 203 (by unfold is98; omega)]; exact m.2 j hj⟩
theorem m_storePart (hx : FxF S) (m : MCut S f L) (hL : L ≤ 1200) (hf : ∀ i, i < L → ai S 201 i = f i ∧ (f i).toInt8.toInt32 = f i) {j : Nat} (hj : j < kC f L) (hg : gdC f L) (w : Wp (ai S 198)) (h8 : kN (ai S 198) 8 < 480) (hF : 10000 ≤ F) : ∃ T, f_X11_storePart F S 197 (nI j) = some (nI (kN (ai S 198) 8), T) ∧ Mf no8 is98 S T ∧ ai T 198 = upd (upd (upd (upd (ai S 198) (4771 + 3 * kN (ai S 198) 8) (nI (lC f L j))) (4772 + 3 * kN (ai S 198) 8) 1) (4773 + 3 * kN (ai S 198) 8) (-1)) 8 (nI (kN (ai S 198) 8 + 1)) ∧ ai T 200 = byU (ai S 200) f (kN (ai S 198) 8) (cC f L j) (lC f L j) := by
  obtain ⟨m1, m2⟩ := hg.2 j hj
  obtain ⟨q1, q2, -, -⟩ := cC_lt (f := f) (L := L) hj
  have q5 := cC_le (f := f) (L := L) hj
  have g1 := hg.1
  have lj : cC f L j + lC f L j ≤ L := by unfold lC at m1 ⊢; omega
  obtain ⟨N, hN⟩ : ∃ N, N = ai S 198 := ⟨_, rfl⟩
  rw [← hN] at w h8 ⊢
  obtain ⟨Q, hQ⟩ : ∃ Q, Q = kN N 8 := ⟨_, rfl⟩
  rw [← hQ] at h8 ⊢
  have e8 : ai S 198 8 = nI Q := by rw [← hN, hQ]; exact w.1.1
  obtain ⟨S1, hS1⟩ : ∃ S1, S1 = uai S 198 (4771 + 3 * Q) (nI (lC f L j)) := ⟨_, rfl⟩
  obtain ⟨S2, hS2⟩ : ∃ S2, S2 = uai S1 198 (4772 + 3 * Q) 1 := ⟨_, rfl⟩
  obtain ⟨S3, hS3⟩ : ∃ S3, S3 = uai S2 198 (4773 + 3 * Q) (-1) := ⟨_, rfl⟩
  have f1 : Mf no8 is98 S S1 := by rw [hS1]; exact Mf.uai _ (Or.inl rfl)
  have f2 : Mf no8 is98 S1 S2 := by rw [hS2]; exact Mf.uai _ (Or.inl rfl)
  have f3 : Mf no8 is98 S2 S3 := by rw [hS3]; exact Mf.uai _ (Or.inl rfl)
  have x1 := f1.fx hx
  have x2 := f2.fx x1
  have F3 := (f1.tr f2).tr f3
  have x3 := F3.fx hx
  have n3 : ai S3 198 = upd (upd (upd N (4771 + 3 * Q) (nI (lC f L j))) (4772 + 3 * Q) 1) (4773 + 3 * Q) (-1) := by rw [hS3, ai_uaiE, hS2, ai_uaiE, hS1, ai_uaiE, ← hN]
  have b3 : ai S3 200 = ai S 200 := by rw [hS3, ai_uaiN _ (by omega), hS2, ai_uaiN _ (by omega), hS1, ai_uaiN _ (by omega)]
  have loop : ∀ d k fu T, k + d = lC f L j → d < fu → Mf no8 is98 S T → ai T 198 = ai S3 198 → ai T 200 = byU (ai S 200) f Q (cC f L j) k → ∃ T', f_X11_storePart_L59 F fu T 197 (nI j) (nI Q) (nI k) = some (nI Q, T') ∧ Mf no8 is98 S T' ∧ ai T' 198 = upd (ai S3 198) 8 (nI (Q + 1)) ∧ ai T' 200 = byU (ai S 200) f Q (cC f L j) (lC f L j) := by
    intro d
    induction d with
    | zero =>
      intro k fu T hk hfu c1 c2 c3
      obtain ⟨fu, rfl⟩ : ∃ f', fu = f' + 1 := ⟨fu - 1, by omega⟩
      have ek : k = lC f L j := by omega
      subst ek
      have hxT := c1.fx hx
      have e8T : ai T 198 8 = nI Q := by rw [c2, n3, upd_n (by omega), upd_n (by omega), upd_n (by omega), hN]; exact e8
      refine ⟨uai T 198 8 (nI (Q + 1)), ?_, c1.tr (Mf.uai _ (Or.inl rfl)), by rw [ai_uaiE, c2], by rw [ai_uaiN _ (by omega)]; exact c3⟩
      unfold f_X11_storePart_L59
      rw [m_lengthIn hxT (m.fr c1) hL hj, ob_some]
      simp only [lt_eq]
      rw [if_pos (nI_le (Nat.le_refl _) (by omega)), hxT.r1001_197, ob_some, hxT.l198, show (8 : Int32) = nI 8 from rfl, cki_nI (by omega) (by omega), cki_nI (by omega) (by omega), nI_clamp (by omega), e8T, nI_1]
    | succ d ih =>
      intro k fu T hk hfu c1 c2 c3
      obtain ⟨fu, rfl⟩ : ∃ f', fu = f' + 1 := ⟨fu - 1, by omega⟩
      have hxT := c1.fx hx
      have mT := m.fr c1
      have a201 : ai T 201 = ai S 201 := c1.2.2.1 201 (by unfold is98; omega)
      obtain ⟨T', t1, t2⟩ := ih (k + 1) fu (uai T 200 (200 * Q + k) (f (cC f L j + k))) (by omega) (by omega) (c1.tr (Mf.uai _ (Or.inr rfl))) (by rw [ai_uaiN _ (by omega)]; exact c2) (by
        rw [ai_uaiE, c3]
        funext x
        by_cases y : x = 200 * Q + k
        · rw [y, upd_e]
          unfold byU
          rw [if_pos (by omega), show 200 * Q + k - 200 * Q = k by omega]
        · rw [upd_n y]
          unfold byU
          by_cases z : 200 * Q ≤ x ∧ x < 200 * Q + k
          · rw [if_pos z, if_pos (by omega)]
          · rw [if_neg z, if_neg (by omega)])
      refine ⟨T', ?_, t2⟩
      rw [← t1]
      conv => lhs; unfold f_X11_storePart_L59
      rw [m_lengthIn hxT mT hL hj, ob_some]
      simp only [lt_eq]
      have i8f := (hf (cC f L j + k) (by omega)).2
      rw [if_neg (nI_ge (by omega) (by omega)), hxT.r1003_197, ob_some, hxT.r1006_197, ob_some, hxT.r1017_197, ob_some, hxT.l203, cki_nI (by omega) (by omega), nI_clamp (by omega), mT.2 j (by omega), nI_add, hxT.l201, cki_nI (by omega) (by omega), show (200 : Int32) = nI 200 from rfl, nI_mul, nI_add, hxT.l200, cki_nI (by omega) (by omega), nI_clamp (by omega), nI_clamp (by omega), a201, (hf _ (by omega)).1, i8f, nI_1]
  obtain ⟨T', t1, t2, t3, t4⟩ := loop (lC f L j) 0 F S3 (by omega) (by omega) F3 rfl (by
    rw [b3]
    funext x
    unfold byU
    rw [if_neg (by omega)])
  refine ⟨T', ?_, t2, by rw [t3, n3], t4⟩
  unfold f_X11_storePart
  rw [hx.r1001_197, ob_some, hx.l198, show (8 : Int32) = nI 8 from rfl, cki_nI (by omega) (by omega), nI_clamp (by omega), e8]
  simp only [lt_eq]
  rw [ob_some, m_lengthIn hx m hL hj, ob_some]
  simp only [lt_eq]
  rw [hx.l198, show (4771 : Int32) = nI 4771 from rfl, show (3 : Int32) = nI 3 from rfl, nI_mul, nI_add, Int32.add_zero, cki_nI (by omega) (by omega), nI_clamp (by omega), ← hS1, x1.r1001_197, ob_some, x1.l198, nI_1, show 4771 + 3 * Q + 1 = 4772 + 3 * Q by omega, cki_nI (by omega) (by omega), nI_clamp (by omega), ← hS2, x2.r1001_197, ob_some, x2.l198, show (2 : Int32) = nI 2 from rfl, nI_add, show 4771 + 3 * Q + 2 = 4773 + 3 * Q by omega, cki_nI (by omega) (by omega), nI_clamp (by omega), ← hS3]
  exact t1
theorem m_storeParts (hx : FxF S) (ht : si S 1005 197 = 0) (mc : MCut S f L) (hL : L ≤ 1200) (hf : ∀ i, i < L → ai S 201 i = f i ∧ (f i).toInt8.toInt32 = f i) (hg : gdC f L) (w : Wp (ai S 198)) {m : Nat} (hm : m < 120) (h8 : kN (ai S 198) 8 ≤ 4 * m) (hF : 10000 ≤ F) : ∃ T, f_X11_storeParts F S 197 (nI m) = some T ∧ Mf no8 is98 S T ∧ ai T 198 = (ptN m f L (ai S 198) (ai S 200) (kC f L)).1 ∧ ai T 200 = (ptN m f L (ai S 198) (ai S 200) (kC f L)).2 := by
  have g1 := hg.1
  obtain ⟨N, hN⟩ : ∃ N, N = ai S 198 := ⟨_, rfl⟩
  obtain ⟨B, hB⟩ : ∃ B, B = ai S 200 := ⟨_, rfl⟩
  rw [← hN] at w h8 ⊢
  rw [← hB]
  have loop : ∀ d j fu T, j + d = kC f L → d < fu → Mf no8 is98 S T → ai T 198 = (ptN m f L N B j).1 → ai T 200 = (ptN m f L N B j).2 → ∃ T', f_X11_storeParts_L2 F fu T 197 (nI m) (nI j) = some T' ∧ Mf no8 is98 S T' ∧ ai T' 198 = (ptN m f L N B (kC f L)).1 ∧ ai T' 200 = (ptN m f L N B (kC f L)).2 := by
    intro d
    induction d with
    | zero =>
      intro j fu T hj hfu c1 c2 c3
      obtain ⟨fu, rfl⟩ : ∃ f', fu = f' + 1 := ⟨fu - 1, by omega⟩
      have ej : j = kC f L := by omega
      subst ej
      refine ⟨T, ?_, c1, c2, c3⟩
      unfold f_X11_storeParts_L2
      rw [(mc.fr c1).1, if_pos (nI_le (Nat.le_refl _) (by omega))]
    | succ d ih =>
      intro j fu T hj hfu c1 c2 c3
      obtain ⟨fu, rfl⟩ : ∃ f', fu = f' + 1 := ⟨fu - 1, by omega⟩
      have hjk : j < kC f L := by omega
      have hxT := c1.fx hx
      have mT := mc.fr c1
      have a201 : ai T 201 = ai S 201 := c1.2.2.1 201 (by unfold is98; omega)
      have hfT : ∀ i, i < L → ai T 201 i = f i ∧ (f i).toInt8.toInt32 = f i := fun i hi => by rw [a201]; exact hf i hi
      obtain ⟨X, hX⟩ : ∃ X, X = (ptN m f L N B j).1 := ⟨_, rfl⟩
      obtain ⟨Y, hY⟩ : ∃ Y, Y = (ptN m f L N B j).2 := ⟨_, rfl⟩
      obtain ⟨w1, w2, w3, w4⟩ := ptN_w (B := B) w hm hg h8 j (by omega)
      rw [← hX] at c2 w1 w2 w3 w4
      rw [← hY] at c3
      have nxt : ptN m f L N B (j + 1) = (upd (pt1 X Y f L j).1 (334 + 7 * m + j) (nI (nbC X Y f L j)), (pt1 X Y f L j).2) := by rw [ptN_s]; unfold ptM; rw [← hX, ← hY]
      have like := m_storedLike (F := F) hxT (by rw [c2]; exact w1.1) (fun q hq => by rw [c2] at hq ⊢; exact w1.2.2 q hq) mT hL (fun i hi => (hfT i hi).1) hjk hF
      rw [c2, c3] at like
      -- the place's number is laid down
      have fin : ∀ T1, Mf no8 is98 S T1 → ai T1 198 = (pt1 X Y f L j).1 → ai T1 200 = (pt1 X Y f L j).2 → ∃ T', f_X11_storeParts_L60 F (fun a0 a1 a2 a3 => f_X11_storeParts_L2 F fu a0 a1 a2 a3) T1 197 (nI m) (nI j) (nI (nbC X Y f L j)) = some T' ∧ Mf no8 is98 S T' ∧ ai T' 198 = (ptN m f L N B (kC f L)).1 ∧ ai T' 200 = (ptN m f L N B (kC f L)).2 := by
        intro T1 d1 d2 d3
        have hx1 := d1.fx hx
        obtain ⟨T', t1, t2⟩ := ih (j + 1) fu (uai T1 198 (334 + 7 * m + j) (nI (nbC X Y f L j))) (by omega) (by omega) (d1.tr (Mf.uai _ (Or.inl rfl))) (by rw [ai_uaiE, d2, nxt]) (by rw [ai_uaiN _ (by omega), d3, nxt])
        refine ⟨T', ?_, t2⟩
        rw [← t1]
        unfold f_X11_storeParts_L60
        rw [hx1.r1001_197, ob_some, hx1.l198, show (331 : Int32) = nI 331 from rfl, show (7 : Int32) = nI 7 from rfl, show (3 : Int32) = nI 3 from rfl, nI_mul, nI_add, nI_add, nI_add, show 331 + 7 * m + 3 + j = 334 + 7 * m + j by omega, cki_nI (by omega) (by omega), nI_clamp (by omega), lt_eq, lt_eq, nI_1]
      unfold f_X11_storeParts_L2
      rw [mT.1, if_neg (nI_ge (by omega) (by omega)), like, ob_some]
      simp only [lt_eq]
      have b8 := w1.1.2
      by_cases z : nbC X Y f L j < kN X 8
      · have en : nbI X Y f L j = nI (nbC X Y f L j) := by unfold nbI; rw [if_pos z]
        have ep : pt1 X Y f L j = (if deN X (nbC X Y f L j) = -1 then X else lgN (upd X (4773 + 3 * nbC X Y f L j) (-1)) 7 (nI (nbC X Y f L j)), Y) := by unfold pt1; rw [if_pos z]
        rw [if_pos (fun y => ((nbI_n1 b8).mp y) z), en, m_isDead hxT (by omega), ob_some, c2]
        simp only [lt_eq, eq_bI]
        by_cases z2 : deN X (nbC X Y f L j) = -1
        · rw [if_neg (fun y => y z2)]
          exact fin T c1 (by rw [c2, ep]; show X = if _ then _ else _; rw [if_pos z2]) (by rw [c3, ep])
        · obtain ⟨T1, hT1⟩ : ∃ T1, T1 = uai T 198 (4773 + 3 * nbC X Y f L j) (-1) := ⟨_, rfl⟩
          have f1 : Mf no8 is98 T T1 := by rw [hT1]; exact Mf.uai _ (Or.inl rfl)
          have x1 := f1.fx hxT
          have n1 : ai T1 198 = upd X (4773 + 3 * nbC X Y f L j) (-1) := by rw [hT1, ai_uaiE, c2]
          obtain ⟨T2, p1, p2, p3⟩ := m_log (F := F) x1 ((f1.2.1 1005 197 (fun y => y.2)).trans ((c1.2.1 1005 197 (fun y => y.2)).trans ht)) (by rw [n1]; unfold isCnt kN; rw [upd_n (by omega)]; exact w1.2.1) 7 (nI (nbC X Y f L j)) (by omega)
          obtain ⟨T', t1, t2⟩ := fin T2 ((c1.tr f1).tr (Mf.n98 p2)) (by rw [p3, n1, ep]; show _ = if _ then _ else _; rw [if_neg z2]) (by rw [p2.row (by omega), hT1, ai_uaiN _ (by omega), c3, ep])
          refine ⟨T', ?_, t2⟩
          rw [if_pos z2, hxT.r1001_197, ob_some, hxT.l198, show (4771 : Int32) = nI 4771 from rfl, show (3 : Int32) = nI 3 from rfl, show (2 : Int32) = nI 2 from rfl, nI_mul, nI_add, nI_add, show 4771 + 3 * nbC X Y f L j + 2 = 4773 + 3 * nbC X Y f L j by omega, cki_nI (by omega) (by omega), nI_clamp (by omega), ← hT1, p1, ob_some]
          exact t1
      · have nb := nbC_le (N := X) (B := Y) (f := f) (L := L) (j := j)
        have ee : nbC X Y f L j = kN X 8 := by omega
        have ep : pt1 X Y f L j = (upd (upd (upd (upd X (4771 + 3 * kN X 8) (nI (lC f L j))) (4772 + 3 * kN X 8) 1) (4773 + 3 * kN X 8) (-1)) 8 (nI (kN X 8 + 1)), byU Y f (kN X 8) (cC f L j) (lC f L j)) := by unfold pt1; rw [if_neg z]
        obtain ⟨T1, p1, p2, p3, p4⟩ := m_storePart (F := F) hxT mT hL hfT hjk hg (by rw [c2]; exact w1) (by rw [c2]; omega) hF
        rw [c2] at p1 p3 p4
        rw [c3] at p4
        obtain ⟨T', t1, t2⟩ := fin T1 (c1.tr p2) (by rw [p3, ep]) (by rw [p4, ep])
        refine ⟨T', ?_, t2⟩
        rw [if_neg (fun y => y ((nbI_n1 b8).mpr z)), p1, ob_some, ← ee]
        exact t1
  unfold f_X11_storeParts
  exact loop (kC f L) 0 F S (by omega) (by omega) (Mf.rf S) hN.symm hB.symm
end Ms
