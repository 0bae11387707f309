/-! the new message itself: the model -/
/-- the rows of message m: sender, day, how many parts, references of the users below x -/
noncomputable def hp (m i x : Nat) (snd d : Int32) (rd : Nat → Prop) (cl : Nat → Int32) (X : Nat → Int32) : Nat → Int32 := fun k =>
  if k = 331 + 7 * m then snd else if k = 332 + 7 * m then d else if k = 333 + 7 * m then nI i else
  if 1171 + 30 * m ≤ k ∧ k < 1171 + 30 * m + 3 * x then (if (k - (1171 + 30 * m)) % 3 = 0 then pif (rd ((k - (1171 + 30 * m)) / 3)) 0 (-1) else if (k - (1171 + 30 * m)) % 3 = 1 then cl ((k - (1171 + 30 * m)) / 3) else d) else X k
noncomputable def hy (m i : Nat) (snd d : Int32) (rd : Nat → Prop) (cl : Nat → Int32) (X : Nat → Int32) : Nat → Int32 := upd (hp m i 10 snd d rd cl X) 7 (nI (m + 1))
section Hp
variable {m i x : Nat} {snd d : Int32} {rd : Nat → Prop} {cl X : Nat → Int32}
theorem hp_n {k : Nat} (h1 : ¬ k = 331 + 7 * m) (h2 : ¬ k = 332 + 7 * m) (h3 : ¬ k = 333 + 7 * m) (h4 : k < 1171 + 30 * m ∨ 1171 + 30 * m + 3 * x ≤ k) : hp m i x snd d rd cl X k = X k := by
  unfold hp
  rw [if_neg h1, if_neg h2, if_neg h3, if_neg (by omega)]
theorem hy_n {k : Nat} (h7 : ¬ k = 7) (h1 : ¬ k = 331 + 7 * m) (h2 : ¬ k = 332 + 7 * m) (h3 : ¬ k = 333 + 7 * m) (h4 : k < 1171 + 30 * m ∨ 1201 + 30 * m ≤ k) : hy m i snd d rd cl X k = X k := by
  unfold hy
  rw [upd_n h7, hp_n h1 h2 h3 (by omega)]
theorem hy_7 : hy m i snd d rd cl X 7 = nI (m + 1) := upd_e _ _ _
theorem hy_s : hy m i snd d rd cl X (331 + 7 * m) = snd := by
  unfold hy hp
  rw [upd_n (by omega), if_pos rfl]
theorem hy_d : hy m i snd d rd cl X (332 + 7 * m) = d := by
  unfold hy hp
  rw [upd_n (by omega), if_neg (by omega), if_pos rfl]
theorem hy_m : hy m i snd d rd cl X (333 + 7 * m) = nI i := by
  unfold hy hp
  rw [upd_n (by omega), if_neg (by omega), if_neg (by omega), if_pos rfl]
theorem hy_r {u : Nat} (hm : m < 120) (hu : u < 10) : hy m i snd d rd cl X (1171 + 3 * (10 * m + u)) = pif (rd u) 0 (-1) ∧ hy m i snd d rd cl X (1172 + 3 * (10 * m + u)) = cl u ∧ hy m i snd d rd cl X (1173 + 3 * (10 * m + u)) = d := by
  unfold hy hp
  refine ⟨?_, ?_, ?_⟩
  · rw [upd_n (by omega), if_neg (by omega), if_neg (by omega), if_neg (by omega), if_pos (by omega), if_pos (by omega), show (1171 + 3 * (10 * m + u) - (1171 + 30 * m)) / 3 = u by omega]
  · rw [upd_n (by omega), if_neg (by omega), if_neg (by omega), if_neg (by omega), if_pos (by omega), if_neg (by omega), if_pos (by omega), show (1172 + 3 * (10 * m + u) - (1171 + 30 * m)) / 3 = u by omega]
  · rw [upd_n (by omega), if_neg (by omega), if_neg (by omega), if_neg (by omega), if_pos (by omega), if_neg (by omega), if_neg (by omega)]
theorem hp_s (hm : m < 120) (hx : x < 10) : hp m i (x + 1) snd d rd cl X = upd (upd (upd (hp m i x snd d rd cl X) (1171 + 3 * (10 * m + x)) (pif (rd x) 0 (-1))) (1172 + 3 * (10 * m + x)) (cl x)) (1173 + 3 * (10 * m + x)) d := by
  funext k
  by_cases c : k = 1173 + 3 * (10 * m + x)
  · rw [c, upd_e]
    unfold hp
    rw [if_neg (by omega), if_neg (by omega), if_neg (by omega), if_pos (by omega), if_neg (by omega), if_neg (by omega)]
  rw [upd_n c]
  by_cases b : k = 1172 + 3 * (10 * m + x)
  · rw [b, upd_e]
    unfold hp
    rw [if_neg (by omega), if_neg (by omega), if_neg (by omega), if_pos (by omega), if_neg (by omega), if_pos (by omega), show (1172 + 3 * (10 * m + x) - (1171 + 30 * m)) / 3 = x by omega]
  rw [upd_n b]
  by_cases a : k = 1171 + 3 * (10 * m + x)
  · rw [a, upd_e]
    unfold hp
    rw [if_neg (by omega), if_neg (by omega), if_neg (by omega), if_pos (by omega), if_pos (by omega), show (1171 + 3 * (10 * m + x) - (1171 + 30 * m)) / 3 = x by omega]
  rw [upd_n a]
  unfold hp
  by_cases h1 : k = 331 + 7 * m
  · rw [if_pos h1, if_pos h1]
  rw [if_neg h1, if_neg h1]
  by_cases h2 : k = 332 + 7 * m
  · rw [if_pos h2, if_pos h2]
  rw [if_neg h2, if_neg h2]
  by_cases h3 : k = 333 + 7 * m
  · rw [if_pos h3, if_pos h3]
  rw [if_neg h3, if_neg h3]
  by_cases h4 : 1171 + 30 * m ≤ k ∧ k < 1171 + 30 * m + 3 * x
  · rw [if_pos h4, if_pos (by omega)]
  · rw [if_neg h4, if_neg (by omega)]
theorem hp_0 : hp m i 0 snd d rd cl X = upd (upd (upd X (331 + 7 * m) snd) (332 + 7 * m) d) (333 + 7 * m) (nI i) := by
  funext k
  unfold hp
  by_cases h1 : k = 331 + 7 * m
  · rw [if_pos h1, h1, upd_n (by omega), upd_n (by omega), upd_e]
  rw [if_neg h1]
  by_cases h2 : k = 332 + 7 * m
  · rw [if_pos h2, h2, upd_n (by omega), upd_e]
  rw [if_neg h2]
  by_cases h3 : k = 333 + 7 * m
  · rw [if_pos h3, h3, upd_e]
  rw [if_neg h3, if_neg (by omega), upd_n h3, upd_n h2, upd_n h1]
end Hp
section Mm
variable {F : Nat} {S : St} {f : Nat → Int32} {L : Nat}
theorem uai3 (S : St) (i a b c : Nat) (x y z : Int32) : ai (uai (uai (uai S i a x) i b y) i c z) i = upd (upd (upd (ai S i) a x) b y) c z := by rw [ai_uaiE, ai_uaiE, ai_uaiE]
theorem m_storeMessage (hx : FxF S) (ht : si S 1005 197 = 0) (mc : MCut S f L) (hL : L ≤ 1200) (hf : ∀ i, i < L → ai S 201 i = f i ∧ (f i).toInt8.toInt32 = f i) (hg : gdC f L) (w : Wp (ai S 198)) {m : Nat} (hm : m < 120) (h7 : ai S 198 7 = nI m) (h8 : kN (ai S 198) 8 ≤ 4 * m) {r : Nat} (hr : r < 1024) (snd c : Int32) (hF : 10000 ≤ F) :
    ∃ T, f_X11_storeMessage F S 197 (nI m) snd (nI r) c = some T ∧ Mf no8 is98 S T ∧ ai T 198 = lgN (hy m (kC f L) snd (ai S 198 2) (fun u => r.testBit u = true) (fun u => if c = -1 then ai S 198 (83 + 8 * u) else c) (ptN m f L (ai S 198) (ai S 200) (kC f L)).1) 1 (nI m) ∧ ai T 200 = (ptN m f L (ai S 198) (ai S 200) (kC f L)).2 := by
  obtain ⟨S0, p1, p2, p3, p4⟩ := m_storeParts (F := F) hx ht mc hL hf hg w hm h8 hF
  obtain ⟨N, hN⟩ : ∃ N, N = ai S 198 := ⟨_, rfl⟩
  rw [← hN] at w h7 h8 p3 p4 ⊢
  obtain ⟨X, hX⟩ : ∃ X, X = (ptN m f L N (ai S 200) (kC f L)).1 := ⟨_, rfl⟩
  obtain ⟨-, -, -, w4⟩ := ptN_w (B := ai S 200) w hm hg h8 (kC f L) (Nat.le_refl _)
  have g1 := hg.1
  have wX := (ptN_w (B := ai S 200) w hm hg h8 (kC f L) (Nat.le_refl _)).1
  rw [← hX] at p3 w4 wX ⊢
  have x0 := p2.fx hx
  have X2 : X 2 = N 2 := w4 2 (by omega) (by omega) (by omega) (by omega)
  obtain ⟨S1, hS1⟩ : ∃ S1, S1 = uai S0 198 (331 + 7 * m) snd := ⟨_, rfl⟩
  obtain ⟨S2, hS2⟩ : ∃ S2, S2 = uai S1 198 (332 + 7 * m) (N 2) := ⟨_, rfl⟩
  obtain ⟨S3, hS3⟩ : ∃ S3, S3 = uai S2 198 (333 + 7 * m) (nI (kC f L)) := ⟨_, rfl⟩
  have f1 : Mf no8 is98 S0 S1 := by rw [hS1]; exact Mf.uai _ (Or.inl rfl)
  have f2 : Mf no8 is98 S1 S2 := by rw [hS2]; exact Mf.uai _ (Or.inl rfl)
  have f3 : Mf no8 is98 S2 S3 := by rw [hS3]; exact Mf.uai _ (Or.inl rfl)
  have x1 := f1.fx x0
  have x2 := f2.fx x1
  have F3 := ((p2.tr f1).tr f2).tr f3
  have n1 : ai S1 198 2 = N 2 := by rw [hS1, ai_uaiE, upd_n (by omega), p3]; exact X2
  have n3 : ai S3 198 = hp m (kC f L) 0 snd (N 2) (fun u => r.testBit u = true) (fun u => if c = -1 then N (83 + 8 * u) else c) X := by
    rw [hp_0, hS3, ai_uaiE, hS2, ai_uaiE, hS1, ai_uaiE, p3]
  have b3 : ai S3 200 = ai S0 200 := by rw [hS3, ai_uaiN _ (by omega), hS2, ai_uaiN _ (by omega), hS1, ai_uaiN _ (by omega)]
  have loop : ∀ d u fu T, u + d = 10 → d < fu → Mf no8 is98 S T → ai T 198 = hp m (kC f L) u snd (N 2) (fun u => r.testBit u = true) (fun u => if c = -1 then N (83 + 8 * u) else c) X → ai T 200 = ai S0 200 → ∃ T', f_X11_storeMessage_L64 F fu T 197 (nI m) (nI r) c (nI u) = some T' ∧ Mf no8 is98 S T' ∧ ai T' 198 = lgN (hy m (kC f L) snd (N 2) (fun u => r.testBit u = true) (fun u => if c = -1 then N (83 + 8 * u) else c) X) 1 (nI m) ∧ ai T' 200 = ai S0 200 := by
    intro d
    induction d with
    | zero =>
      intro u fu T hu hfu c1 c2 c3
      obtain ⟨fu, rfl⟩ : ∃ f', fu = f' + 1 := ⟨fu - 1, by omega⟩
      have : u = 10 := by omega
      subst this
      have hxT := c1.fx hx
      have e7 : ai T 198 7 = nI m := by
        rw [c2, hp_n (by omega) (by omega) (by omega) (by omega), w4 7 (by omega) (by omega) (by omega) (by omega)]; exact h7
      obtain ⟨T1, hT1⟩ : ∃ T1, T1 = uai T 198 7 (nI (m + 1)) := ⟨_, rfl⟩
      have g1 : Mf no8 is98 T T1 := by rw [hT1]; exact Mf.uai _ (Or.inl rfl)
      have y1 := g1.fx hxT
      have n1 : ai T1 198 = hy m (kC f L) snd (N 2) (fun u => r.testBit u = true) (fun u => if c = -1 then N (83 + 8 * u) else c) X := by rw [hT1, ai_uaiE, c2]; rfl
      obtain ⟨T2, q1, q2, q3⟩ := m_log (F := F) y1 ((g1.2.1 1005 197 (fun y => y.2)).trans ((c1.2.1 1005 197 (fun y => y.2)).trans ht)) (by
        rw [n1]; unfold isCnt kN
        rw [hy_n (by omega) (by omega) (by omega) (by omega) (by omega)]
        exact wX.2.1) 1 (nI m) (by omega)
      refine ⟨T2, ?_, (c1.tr g1).tr (Mf.n98 q2), by rw [q3, n1], by rw [q2.row (by omega), hT1, ai_uaiN _ (by omega)]; exact c3⟩
      unfold f_X11_storeMessage_L64
      rw [show (10 : Int32) = nI 10 from rfl, if_pos (nI_le (Nat.le_refl _) (by omega)), hxT.r1001_197, ob_some, hxT.l198, show (7 : Int32) = nI 7 from rfl, cki_nI (by omega) (by omega), cki_nI (by omega) (by omega), nI_clamp (by omega), e7, nI_1, lt_eq, ← hT1, q1, ob_some]
    | succ d ih =>
      intro u fu T hu hfu c1 c2 c3
      obtain ⟨fu, rfl⟩ : ∃ f', fu = f' + 1 := ⟨fu - 1, by omega⟩
      have hxT := c1.fx hx
      obtain ⟨A, hA⟩ : ∃ A : Nat → Int32, A = ai T 198 := ⟨_, rfl⟩
      have e2 : ai T 198 2 = N 2 := by rw [c2, hp_n (by omega) (by omega) (by omega) (by omega)]; exact X2
      have e83 : ai T 198 (83 + 8 * u) = N (83 + 8 * u) := by rw [c2, hp_n (by omega) (by omega) (by omega) (by omega)]; exact w4 _ (by omega) (by omega) (by omega) (by omega)
      have nx := hp_s (m := m) (i := kC f L) (x := u) (snd := snd) (d := N 2) (rd := fun u => r.testBit u = true) (cl := fun u => if c = -1 then N (83 + 8 * u) else c) (X := X) hm (by omega)
      obtain ⟨T1, hT1⟩ : ∃ T1, T1 = uai T 198 (1171 + 3 * (10 * m + u)) (pif (r.testBit u = true) 0 (-1)) := ⟨_, rfl⟩
      obtain ⟨T2, hT2⟩ : ∃ T2, T2 = uai T1 198 (1172 + 3 * (10 * m + u)) (if c = -1 then N (83 + 8 * u) else c) := ⟨_, rfl⟩
      obtain ⟨T3, hT3⟩ : ∃ T3, T3 = uai T2 198 (1173 + 3 * (10 * m + u)) (N 2) := ⟨_, rfl⟩
      have g1 : Mf no8 is98 T T1 := by rw [hT1]; exact Mf.uai _ (Or.inl rfl)
      have g2 : Mf no8 is98 T1 T2 := by rw [hT2]; exact Mf.uai _ (Or.inl rfl)
      have g3 : Mf no8 is98 T2 T3 := by rw [hT3]; exact Mf.uai _ (Or.inl rfl)
      have y1 := g1.fx hxT
      have y2 := g2.fx y1
      have z1 : ai T1 198 (83 + 8 * u) = N (83 + 8 * u) := by rw [hT1, ai_uaiE, upd_n (by omega)]; exact e83
      have z2 : ai T2 198 2 = N 2 := by rw [hT2, ai_uaiE, upd_n (by omega), hT1, ai_uaiE, upd_n (by omega)]; exact e2
      obtain ⟨T', t1, t2⟩ := ih (u + 1) fu T3 (by omega) (by omega) (((c1.tr g1).tr g2).tr g3) (by rw [hT3, hT2, hT1, uai3, c2, nx]) (by rw [hT3, ai_uaiN _ (by omega), hT2, ai_uaiN _ (by omega), hT1, ai_uaiN _ (by omega)]; exact c3)
      refine ⟨T', ?_, t2⟩
      rw [← t1]
      -- the third
      have third : ∀ v : Int32, v = (if c = -1 then N (83 + 8 * u) else c) → f_X11_storeMessage_L136 F (fun a0 a1 a2 a3 a4 a5 => f_X11_storeMessage_L64 F fu a0 a1 a2 a3 a4 a5) T1 197 (nI m) (nI r) c (nI u) v (nI (1171 + 3 * (10 * m + u)) + 1) 198 = f_X11_storeMessage_L64 F fu T3 197 (nI m) (nI r) c (nI (u + 1)) := by
        intro v hv
        unfold f_X11_storeMessage_L136
        rw [nI_1, show 1171 + 3 * (10 * m + u) + 1 = 1172 + 3 * (10 * m + u) by omega, y1.l198, cki_nI (by omega) (by omega), nI_clamp (by omega), hv, ← hT2, lt_eq, y2.r1001_197, ob_some, m_refAt, ob_some]
        simp only [lt_eq]
        rw [y2.r1001_197, ob_some, y2.l198, show (2 : Int32) = nI 2 from rfl, cki_nI (by omega) (by omega), nI_add, show 1171 + 3 * (10 * m + u) + 2 = 1173 + 3 * (10 * m + u) by omega, cki_nI (by omega) (by omega), nI_clamp (by omega), nI_clamp (by omega), z2, ← hT3, nI_1]
      have second : f_X11_storeMessage_L97 F (fun a0 a1 a2 a3 a4 a5 => f_X11_storeMessage_L64 F fu a0 a1 a2 a3 a4 a5) T 197 (nI m) (nI r) c (nI u) (pif (r.testBit u = true) 0 (-1)) (nI (1171 + 3 * (10 * m + u)) + 0) 198 = f_X11_storeMessage_L64 F fu T3 197 (nI m) (nI r) c (nI (u + 1)) := by
        unfold f_X11_storeMessage_L97
        rw [Int32.add_zero, hxT.l198, cki_nI (by omega) (by omega), nI_clamp (by omega), ← hT1, lt_eq, y1.r1001_197, ob_some, m_refAt, ob_some]
        simp only [lt_eq]
        by_cases z : c = -1
        · rw [if_neg (fun y => y z), y1.r1001_197, ob_some, y1.l198, show (83 : Int32) = nI 83 from rfl, show (8 : Int32) = nI 8 from rfl, nI_mul, nI_add, Int32.add_zero, cki_nI (by omega) (by omega), nI_clamp (by omega), z1]
          exact third _ (by rw [if_pos z])
        · rw [if_pos z]
          exact third _ (by rw [if_neg z])
      conv => lhs; unfold f_X11_storeMessage_L64
      rw [show (10 : Int32) = nI 10 from rfl, if_neg (nI_ge (by omega) (by omega)), hxT.r1001_197, ob_some, m_refAt, ob_some]
      simp only [lt_eq]
      rw [e_mhasBit F T hr (by omega), ob_some]
      simp only [lt_eq, eq_bI]
      rw [← second]
      by_cases z : r.testBit u = true
      · rw [if_pos z, pif_t z]
      · rw [if_neg z, pif_f z]
  obtain ⟨T', t1, t2, t3, t4⟩ := loop 10 0 F S3 (by omega) (by omega) F3 n3 b3
  refine ⟨T', ?_, t2, t3, by rw [t4]; exact p4⟩
  unfold f_X11_storeMessage
  rw [p1, ob_some, x0.r1001_197, ob_some, x0.l198, show (331 : Int32) = nI 331 from rfl, show (7 : Int32) = nI 7 from rfl, nI_mul, nI_add, Int32.add_zero, cki_nI (by omega) (by omega), nI_clamp (by omega), ← hS1]
  simp only [lt_eq]
  rw [x1.r1001_197, ob_some, ob_some, x1.l198, show (2 : Int32) = nI 2 from rfl, cki_nI (by omega) (by omega), nI_1, show 331 + 7 * m + 1 = 332 + 7 * m by omega, cki_nI (by omega) (by omega), nI_clamp (by omega), nI_clamp (by omega), n1, ← hS2, x2.r1001_197, ob_some, x2.l198, nI_add, show 331 + 7 * m + 2 = 333 + 7 * m by omega, cki_nI (by omega) (by omega), nI_clamp (by omega), (mc.fr ((p2.tr f1).tr f2)).1, ← hS3]
  exact t1
end Mm
