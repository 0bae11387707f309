/-! a good statement -/
section Gd1
variable {f D : PD} {L p : Nat} {w : List Int32}
theorem Em.w0 (h : Em f L p w) : 0 < w.length := by have := h.2.2.1; omega
theorem pTx_L (h : Em f L p w) {i j : Nat} (b : txE (chL w) w.length i j = true) (k : Nat → PR) : pTx f L j (p + i) k = k (p + nxE (chL w) w.length i) := by
  have hi := tx_lt b
  unfold pTx
  rw [tx_L h hi, if_pos b, nx_L h hi]
theorem nuB_i {W s v : Nat} (b : nuB f W s v = true) : kdE f W s = 2 ∧ nuE f W s = v := by
  unfold nuB at b
  rw [Bool.and_eq_true, beq_iff_eq, beq_iff_eq] at b
  exact b
theorem pNu_L (h : Em f L p w) {i v lo hh : Nat} (b : nuB (chL w) w.length i v = true) (h1 : lo ≤ v) (h2 : v ≤ hh) (k : Nat → Nat → PR) : pNu f L lo hh (p + i) k = k v (p + nxE (chL w) w.length i) := by
  obtain ⟨b1, b2⟩ := nuB_i b
  have hi : i < w.length := kd_lt (f := chL w) (by omega)
  unfold pNu
  rw [kd_L h hi, if_pos b1, nu_L h hi, b2, if_pos ⟨h1, h2⟩, nx_L h hi]
theorem n2B_i {W s j : Nat} {a : Int32} (b : n2B f W s a j = true) : nmE f W s = true ∧ enE f W s - s = 2 ∧ f s = a ∧ f (s + 1) = nI (97 + j) := by
  unfold n2B at b
  rw [Bool.and_eq_true, Bool.and_eq_true, Bool.and_eq_true, beq_iff_eq, beq_iff_eq, beq_iff_eq] at b
  exact b
theorem n2_L (h : Em f L p w) {i j : Nat} {a : Int32} (b : n2B (chL w) w.length i a j = true) : i < w.length ∧ nmE f L (p + i) = true ∧ enE f L (p + i) - (p + i) = 2 ∧ f (p + i) = a ∧ f (p + i + 1) = nI (97 + j) := by
  obtain ⟨b1, b2, b3, b4⟩ := n2B_i b
  have hi := nm_lt b1
  have en := enE_le (f := chL w) (L := w.length) (s := i) (by omega)
  refine ⟨hi, by rw [nm_L h hi]; exact b1, by rw [en_L h hi]; omega, by rw [h.2.1 i hi]; exact b3, by rw [Nat.add_assoc, h.2.1 (i + 1) (by omega)]; exact b4⟩
theorem pNe_L (h : Em f L p w) {i j q q2 n n2 : Nat} {a a2 : Int32} (b : n2B (chL w) w.length i a j = true) (hn : kN D (3 + q) = n) (hr : ∀ x, x < n → nm2 D (kdA q + kdB q * x + kdO q) a x) (hj : n ≤ j) (hj2 : j < 1000) (hn2 : kN D (3 + q2) = n2) (hr2 : ∀ x, x < n2 → nm2 D (kdA q2 + kdB q2 * x + kdO q2) a2 x) (hz : n2 = 0 ∨ q2 = q) (k : Nat → PR) : pNe f L D q q2 (p + i) k = k (p + nxE (chL w) w.length i) := by
  obtain ⟨hi, b1, b2, b3, b4⟩ := n2_L h b
  have e1 : lkE D f L (p + i) q = none := by rw [lk_2 hn hr b2 b3 b4 hj2 (by omega), if_neg (by omega)]
  have e2 : lkE D f L (p + i) q2 = none := by
    rcases hz with z | z
    · unfold lkE; rw [hn2, z]; rfl
    · rw [z]; exact e1
  unfold pNe
  rw [if_pos b1, if_pos ⟨e1, e2⟩, nx_L h hi]
theorem pOl_L (h : Em f L p w) {i j q n : Nat} {a : Int32} (b : n2B (chL w) w.length i a j = true) (hn : kN D (3 + q) = n) (hr : ∀ x, x < n → nm2 D (kdA q + kdB q * x + kdO q) a x) (hj : j < n) (hn2 : n < 1000) (k : Nat → Nat → PR) : pOl f L D q (p + i) k = k j (p + nxE (chL w) w.length i) := by
  obtain ⟨hi, b1, b2, b3, b4⟩ := n2_L h b
  have e1 : lkE D f L (p + i) q = some j := by rw [lk_2 hn hr b2 b3 b4 (by omega) hn2, if_pos hj]
  unfold pOl
  rw [if_pos b1, e1, nx_L h hi]
theorem pEn_L (h : Em f L p w) {i q : Nat} (b : eoB (chL w) w.length i = true) : pEn f L q D (p + i) = some (.inr (p + w.length, upd D q (nI (kN D q + 1)))) := by
  unfold eoB at b
  rw [Bool.and_eq_true, beq_iff_eq] at b
  have hi := sy_lt b.1
  unfold pEn pSy
  rw [sy_L h hi, if_pos b.1, nx_L h hi, b.2]
theorem upd_lo {i x : Nat} {v : Int32} (h : ¬ x = i) : upd D i v x = D x := upd_n h
/-- a class -/
theorem g_c3 (h : Em f L p w) {i c t : Nat} (b : c3B (chL w) w.length i t = true) (ht : t ≤ c) (hc : c < 8) (k3 : kN D 3 = c) (nr : ∀ x, x < c → nm2 D (14 + 9 * x) 99 x) : ∃ v, pC2 f L c D (p + i) = some (.inr (p + w.length, upd (upd D (13 + 9 * c) v) 3 (nI (c + 1)))) := by
  have k3' : ∀ v, kN (upd D (13 + 9 * c) v) 3 = c := fun v => by rw [d_k (by omega)]; exact k3
  unfold c3B at b
  unfold pC2
  by_cases z : t = 0
  · rw [if_pos z, Bool.and_eq_true] at b
    have hi : i < w.length := by
      have := b.2
      unfold eoB at this
      rw [Bool.and_eq_true] at this
      exact sy_lt this.1
    have nt : ¬ txE (chL w) w.length i 7 = true := by have := b.1; revert this; cases txE (chL w) w.length i 7 <;> simp
    rw [tx_L h hi, if_neg nt, pEn_L h b.2, k3']
    exact ⟨_, rfl⟩
  · rw [if_neg z, Bool.and_eq_true, Bool.and_eq_true] at b
    have hi := tx_lt b.1
    rw [tx_L h hi, if_pos b.1, nx_L h hi, pOl_L (q := 0) h b.2.1 k3 (fun x hx => by show nm2 D (11 + 9 * x + 3) 99 x; rw [show 11 + 9 * x + 3 = 14 + 9 * x by omega]; exact nr x hx) (by omega) (by omega), pEn_L h b.2.2, k3']
    exact ⟨_, rfl⟩
theorem g_c2 (h : Em f L p w) {i c k t : Nat} (b : c2B (chL w) w.length i k t = true) (hk : k ≤ 99) (ht : t ≤ c) (hc : c < 8) (k3 : kN D 3 = c) (nr : ∀ x, x < c → nm2 D (14 + 9 * x) 99 x) : ∃ v v', pC1 f L c D (p + i) = some (.inr (p + w.length, upd (upd (upd D (12 + 9 * c) v) (13 + 9 * c) v') 3 (nI (c + 1)))) := by
  have k3' : ∀ v, kN (upd D (12 + 9 * c) v) 3 = c := fun v => by rw [d_k (by omega)]; exact k3
  have nr' : ∀ v x, x < c → nm2 (upd D (12 + 9 * c) v) (14 + 9 * x) 99 x := fun v x hx => nm2_c (nr x hx) (fun y hy => upd_n (by omega))
  unfold c2B at b
  unfold pC1
  by_cases z : k = 0
  · rw [if_pos z, Bool.and_eq_true] at b
    have nt : ¬ txE (chL w) w.length i 6 = true := by have := b.1; revert this; cases txE (chL w) w.length i 6 <;> simp
    have hi : i < w.length := by
      have := b.2
      unfold c3B at this
      by_cases y : t = 0
      · rw [if_pos y, Bool.and_eq_true] at this
        have := this.2
        unfold eoB at this
        rw [Bool.and_eq_true] at this
        exact sy_lt this.1
      · rw [if_neg y, Bool.and_eq_true] at this
        exact tx_lt this.1
    rw [tx_L h hi, if_neg nt]
    obtain ⟨v', e⟩ := g_c3 (D := upd D (12 + 9 * c) 0) h b.2 ht hc (k3' 0) (nr' 0)
    exact ⟨0, v', e⟩
  · rw [if_neg z, Bool.and_eq_true, Bool.and_eq_true] at b
    have hi := tx_lt b.1
    rw [tx_L h hi, if_pos b.1, nx_L h hi, pNu_L h b.2.1 (by omega) hk]
    obtain ⟨v', e⟩ := g_c3 (D := upd D (12 + 9 * c) (nI k)) h b.2.2 ht hc (k3' _) (nr' _)
    exact ⟨_, v', e⟩
theorem g_class {c d k t : Nat} (h : Em f L p (clT c d k t)) (hc : c < 4) (hd : d < 13) (hk : k < 3) (ht : t ≤ c) (k3 : kN D 3 = c) (nr : ∀ x, x < c → nm2 D (14 + 9 * x) 99 x) :
    ∃ D', pSt f L D p = some (.inr (p + (clT c d k t).length, D')) ∧ kN D' 3 = c + 1 ∧ (∀ x, x < c + 1 → nm2 D' (14 + 9 * x) 99 x) ∧ ∀ x, ((x < 11 ∧ ¬ x = 3) ∨ 83 ≤ x) → D' x = D x := by
  have B := cl_all c hc d hd k hk t (by omega)
  unfold clB c0B at B
  rw [Bool.and_eq_true, Bool.and_eq_true, Bool.and_eq_true, Bool.and_eq_true, Bool.and_eq_true] at B
  obtain ⟨-, -, b1, b2, b3, b4⟩ := B
  generalize hw : clT c d k t = w at *
  have h0 := h.w0
  have e1 : pSt f L D p = pCl f L D p := by
    unfold pSt
    rw [show txE f L p 3 = txE f L (p + 0) 3 from rfl, tx_L h h0, if_pos b1]
  have nx0 : nxE f L p = p + nxE (chL w) w.length 0 := nx_L h h0
  obtain ⟨i1, m1, m2, m3, m4⟩ := n2_L h b2
  have i2 := tx_lt b3
  have fin : ∀ v0, ∃ v v', (pC1 f L c (upd (nmW D (14 + 9 * c) f (p + nxE (chL w) w.length 0) (enE f L (p + nxE (chL w) w.length 0) - (p + nxE (chL w) w.length 0))) (11 + 9 * c) v0) (p + nxE (chL w) w.length (nxE (chL w) w.length (nxE (chL w) w.length (nxE (chL w) w.length 0)))) = pC1 f L c (upd (nmW D (14 + 9 * c) f (p + nxE (chL w) w.length 0) (enE f L (p + nxE (chL w) w.length 0) - (p + nxE (chL w) w.length 0))) (11 + 9 * c) v0) (p + nxE (chL w) w.length (nxE (chL w) w.length (nxE (chL w) w.length (nxE (chL w) w.length 0))))) ∧ v = v' := fun v0 => ⟨0, 0, rfl, rfl⟩
  have key : ∀ i v0, c2B (chL w) w.length i k t = true → ∃ D', pC1 f L c (upd (nmW D (14 + 9 * c) f (p + nxE (chL w) w.length 0) (enE f L (p + nxE (chL w) w.length 0) - (p + nxE (chL w) w.length 0))) (11 + 9 * c) v0) (p + i) = some (.inr (p + w.length, D')) ∧ kN D' 3 = c + 1 ∧ (∀ x, x < c + 1 → nm2 D' (14 + 9 * x) 99 x) ∧ ∀ x, ((x < 11 ∧ ¬ x = 3) ∨ 83 ≤ x) → D' x = D x := by
    intro i v0 hb
    have nw : nm2 (nmW D (14 + 9 * c) f (p + nxE (chL w) w.length 0) (enE f L (p + nxE (chL w) w.length 0) - (p + nxE (chL w) w.length 0))) (14 + 9 * c) 99 c := nm2_w m2 m3 m4
    have no : ∀ x, ¬ (14 + 9 * c ≤ x ∧ x < 14 + 9 * c + 6) → nmW D (14 + 9 * c) f (p + nxE (chL w) w.length 0) (enE f L (p + nxE (chL w) w.length 0) - (p + nxE (chL w) w.length 0)) x = D x := fun x hx => nmW_n hx
    generalize nmW D (14 + 9 * c) f (p + nxE (chL w) w.length 0) (enE f L (p + nxE (chL w) w.length 0) - (p + nxE (chL w) w.length 0)) = N at *
    have kN3 : kN (upd N (11 + 9 * c) v0) 3 = c := by rw [d_k (by omega), kN_e (no 3 (by omega))]; exact k3
    obtain ⟨v, v', e⟩ := g_c2 (D := upd N (11 + 9 * c) v0) h hb (by omega) ht (by omega) kN3 (fun x hx => nm2_c (nr x hx) (fun y hy => by rw [upd_n (by omega), no _ (by omega)]))
    refine ⟨_, e, ?_, fun x hx => ?_, fun x hx => ?_⟩
    · exact (isCnt_nI (b := 8) (upd_e _ _ _) (by omega) (by omega)).2
    · by_cases y : x = c
      · rw [y]
        exact nm2_c nw (fun z hz => by rw [upd_n (by omega), upd_n (by omega), upd_n (by omega), upd_n (by omega)])
      · exact nm2_c (nr x (by omega)) (fun z hz => by rw [upd_n (by omega), upd_n (by omega), upd_n (by omega), upd_n (by omega), no _ (by omega)])
    · rw [upd_n (by omega), upd_n (by omega), upd_n (by omega), upd_n (by omega), no _ (by omega)]
  have e2 : pCl f L D p = _ := if_pos (show kN D 3 < 8 by omega)
  rw [e1, e2, nx0, pNe_L (q := 0) (q2 := 0) h b2 k3 (fun x hx => by show nm2 D (11 + 9 * x + 3) 99 x; rw [show 11 + 9 * x + 3 = 14 + 9 * x by omega]; exact nr x hx) (Nat.le_refl c) (by omega) k3 (a2 := 99) (fun x hx => by show nm2 D (11 + 9 * x + 3) 99 x; rw [show 11 + 9 * x + 3 = 14 + 9 * x by omega]; exact nr x hx) (Or.inr rfl), pTx_L h b3, k3]
  unfold c1B at b4
  by_cases z : d = 0
  · rw [if_pos z, Bool.and_eq_true] at b4
    have i3 := tx_lt b4.1
    rw [tx_L h i3, if_pos b4.1, nx_L h i3]
    exact key _ _ b4.2
  · rw [if_neg z, Bool.and_eq_true, Bool.and_eq_true] at b4
    have nt : ¬ txE (chL w) w.length (nxE (chL w) w.length (nxE (chL w) w.length (nxE (chL w) w.length 0))) 5 = true := by
      have := b4.1; revert this
      cases txE (chL w) w.length (nxE (chL w) w.length (nxE (chL w) w.length (nxE (chL w) w.length 0))) 5 <;> simp
    have i3 : nxE (chL w) w.length (nxE (chL w) w.length (nxE (chL w) w.length 0)) < w.length := kd_lt (f := chL w) (by have := (nuB_i b4.2.1).1; omega)
    rw [tx_L h i3, if_neg nt, pNu_L h b4.2.1 (by omega) (by omega)]
    exact key _ _ b4.2.2
/-- a user -/
theorem g_user {u c q n3 : Nat} (h : Em f L p (usT u c q)) (hu : u < 3) (hc : c < 4) (hq : 10 ≤ q ∧ q < 100) (k3 : kN D 3 = n3) (hc3 : c < n3) (h3 : n3 ≤ 4) (k4 : kN D 4 = u) (k5 : kN D 5 = 0) (nr : ∀ x, x < n3 → nm2 D (14 + 9 * x) 99 x) (ur' : ∀ x, x < u → nm2 D (85 + 8 * x) 117 x) :
    ∃ D', pSt f L D p = some (.inr (p + (usT u c q).length, D')) ∧ kN D' 4 = u + 1 ∧ (∀ x, x < u + 1 → nm2 D' (85 + 8 * x) 117 x) ∧ (D' (83 + 8 * u) = nI c ∧ D' (84 + 8 * u) = nI q) ∧ ∀ x, (¬ x = 4 ∧ (x < 83 + 8 * u ∨ 163 ≤ x)) → D' x = D x := by
  have B := (us_all u hu c hc q hq.2).resolve_left (by omega)
  unfold usB u0B at B
  rw [Bool.and_eq_true, Bool.and_eq_true, Bool.and_eq_true, Bool.and_eq_true, Bool.and_eq_true, Bool.and_eq_true, Bool.and_eq_true, Bool.and_eq_true, Bool.and_eq_true] at B
  obtain ⟨-, -, b0, b1, b2, b3, b4, b5, b6, b7⟩ := B
  generalize hw : usT u c q = w at *
  have h0 := h.w0
  have nt : ¬ txE (chL w) w.length 0 3 = true := by revert b0; cases txE (chL w) w.length 0 3 <;> simp
  have e1 : pSt f L D p = pUs f L D p := by
    unfold pSt
    rw [show txE f L p 3 = txE f L (p + 0) 3 from rfl, tx_L h h0, if_neg nt, show txE f L p 8 = txE f L (p + 0) 8 from rfl, tx_L h h0, if_pos b1]
  have nx0 : nxE f L p = p + nxE (chL w) w.length 0 := nx_L h h0
  obtain ⟨i1, m1, m2, m3, m4⟩ := n2_L h b2
  have e2 : pUs f L D p = _ := if_pos (show kN D 4 < 10 ∧ ¬ kN D 3 = 0 by omega)
  rw [e1, e2, nx0, pNe_L (q := 1) (q2 := 2) h b2 k4 (fun x hx => by show nm2 D (83 + 8 * x + 2) 117 x; rw [show 83 + 8 * x + 2 = 85 + 8 * x by omega]; exact ur' x hx) (Nat.le_refl u) (by omega) k5 (a2 := 0) (fun x hx => by omega) (Or.inl rfl), pTx_L h b3, pOl_L (q := 0) h b4 k3 (fun x hx => by show nm2 D (11 + 9 * x + 3) 99 x; rw [show 11 + 9 * x + 3 = 14 + 9 * x by omega]; exact nr x hx) hc3 (by omega), pTx_L h b5, pNu_L h b6 (by omega) (by omega), pEn_L h b7, k4]
  have nw : nm2 (nmW D (85 + 8 * u) f (p + nxE (chL w) w.length 0) (enE f L (p + nxE (chL w) w.length 0) - (p + nxE (chL w) w.length 0))) (85 + 8 * u) 117 u := nm2_w m2 m3 m4
  have no : ∀ x, ¬ (85 + 8 * u ≤ x ∧ x < 85 + 8 * u + 6) → nmW D (85 + 8 * u) f (p + nxE (chL w) w.length 0) (enE f L (p + nxE (chL w) w.length 0) - (p + nxE (chL w) w.length 0)) x = D x := fun x hx => nmW_n hx
  generalize nmW D (85 + 8 * u) f (p + nxE (chL w) w.length 0) (enE f L (p + nxE (chL w) w.length 0) - (p + nxE (chL w) w.length 0)) = N at *
  have kk : kN (upd (upd N (83 + 8 * u) (nI c)) (84 + 8 * u) (nI q)) 4 = u := by rw [d_k (by omega), d_k (by omega), kN_e (no 4 (by omega))]; exact k4
  rw [kk]
  refine ⟨_, rfl, ?_, fun x hx => ?_, ⟨?_, ?_⟩, fun x hx => ?_⟩
  · exact (isCnt_nI (b := 10) (upd_e _ _ _) (by omega) (by omega)).2
  · by_cases y : x = u
    · rw [y]
      exact nm2_c nw (fun z hz => by rw [upd_n (by omega), upd_n (by omega), upd_n (by omega)])
    · exact nm2_c (ur' x (by omega)) (fun z hz => by rw [upd_n (by omega), upd_n (by omega), upd_n (by omega), no _ (by omega)])
  · rw [upd_n (by omega), upd_n (by omega), upd_e]
  · rw [upd_n (by omega), upd_e]
  · rw [upd_n (by omega), upd_n (by omega), upd_n (by omega), no _ (by omega)]
/-- a hold -/
theorem g_h2 (h : Em f L p w) {i c : Nat} {b : Bool} (hb : h2B (chL w) w.length i b = true) (hc : c < 6) (k6 : kN D 6 = c) : ∃ D', pH2 f L c D (p + i) = some (.inr (p + w.length, D')) ∧ kN D' 6 = c + 1 ∧ ∀ x, ¬ x = 6 → (x < 208 + 21 * c ∨ 220 + 21 * c ≤ x) → D' x = D x := by
  unfold h2B at hb
  unfold pH2
  have cnt : ∀ N : PD, kN N 6 = c → kN (upd (upd N (208 + 21 * c) 1) 6 (nI (kN (upd N (208 + 21 * c) 1) 6 + 1))) 6 = c + 1 := fun N hN => by
    rw [d_k (show ¬ 6 = 208 + 21 * c by omega), hN]
    exact (isCnt_nI (b := 6) (upd_e _ _ _) (by omega) (by omega)).2
  by_cases z : b = true
  · rw [if_pos z, Bool.and_eq_true, Bool.and_eq_true] at hb
    have hi := tx_lt hb.1
    have wl := hb.2.1
    have i1 : nxE (chL w) w.length i < w.length := kd_lt (f := chL w) (by
      unfold woE at wl
      rw [Bool.and_eq_true, beq_iff_eq] at wl
      have := wl.1
      omega)
    have wg : woE f L (p + nxE (chL w) w.length i) = true := by
      have en := enE_le (f := chL w) (L := w.length) (s := nxE (chL w) w.length i) (by omega)
      unfold woE at wl ⊢
      rw [kd_L h i1, en_L h i1, show p + enE (chL w) w.length (nxE (chL w) w.length i) - (p + nxE (chL w) w.length i) = enE (chL w) w.length (nxE (chL w) w.length i) - nxE (chL w) w.length i by omega]
      exact wl
    rw [tx_L h hi, if_pos hb.1, nx_L h hi, if_pos wg, nx_L h i1, pEn_L h hb.2.2]
    refine ⟨_, rfl, cnt _ (by rw [kN_e (woW_n (by omega))]; exact k6), fun x h1 h2 => ?_⟩
    rw [upd_n h1, upd_n (by omega), woW_n (by omega)]
  · rw [if_neg z, Bool.and_eq_true] at hb
    have nt : ¬ txE (chL w) w.length i 14 = true := by have := hb.1; revert this; cases txE (chL w) w.length i 14 <;> simp
    have hi : i < w.length := by
      have := hb.2
      unfold eoB at this
      rw [Bool.and_eq_true] at this
      exact sy_lt this.1
    rw [tx_L h hi, if_neg nt, pEn_L h hb.2]
    refine ⟨_, rfl, cnt _ (by rw [d_k (by omega)]; exact k6), fun x h1 h2 => ?_⟩
    rw [upd_n h1, upd_n (by omega), upd_n (by omega)]
theorem g_hold {hh u n4 : Nat} {a b : Bool} (h : Em f L p (hoT hh u a b)) (hu : hh < 2) (hc : u < 3) (k4 : kN D 4 = n4) (hc4 : u < n4) (h4 : n4 ≤ 3) (k6 : kN D 6 = hh) (ur' : ∀ x, x < n4 → nm2 D (85 + 8 * x) 117 x) (hr : ∀ x, x < hh → nm2 D (220 + 21 * x) 104 x) :
    ∃ D', pSt f L D p = some (.inr (p + (hoT hh u a b).length, D')) ∧ kN D' 6 = hh + 1 ∧ (∀ x, x < hh + 1 → nm2 D' (220 + 21 * x) 104 x) ∧ ∀ x, ¬ x = 6 → (x < 205 + 21 * hh ∨ 226 + 21 * hh ≤ x) → D' x = D x := by
  have B : hoB hh u a b = true := by
    obtain ⟨q1, q2, q3, q4⟩ := ho_all hh hu u hc
    cases a with
    | false => cases b with
      | false => exact q1
      | true => exact q2
    | true => cases b with
      | false => exact q3
      | true => exact q4
  unfold hoB h0B at B
  rw [Bool.and_eq_true, Bool.and_eq_true, Bool.and_eq_true, Bool.and_eq_true, Bool.and_eq_true, Bool.and_eq_true, Bool.and_eq_true, Bool.and_eq_true, Bool.and_eq_true] at B
  obtain ⟨-, -, c1, c2, c3, b1, b2, b3, b4, b5⟩ := B
  generalize hw : hoT hh u a b = w at *
  have h0 := h.w0
  have n1 : ¬ txE (chL w) w.length 0 3 = true := by revert c1; cases txE (chL w) w.length 0 3 <;> simp
  have n2 : ¬ txE (chL w) w.length 0 8 = true := by revert c2; cases txE (chL w) w.length 0 8 <;> simp
  have n3 : ¬ txE (chL w) w.length 0 10 = true := by revert c3; cases txE (chL w) w.length 0 10 <;> simp
  have e1 : pSt f L D p = pHo f L D p := by
    unfold pSt
    rw [show txE f L p 3 = txE f L (p + 0) 3 from rfl, tx_L h h0, if_neg n1, show txE f L p 8 = txE f L (p + 0) 8 from rfl, tx_L h h0, if_neg n2, show txE f L p 10 = txE f L (p + 0) 10 from rfl, tx_L h h0, if_neg n3, show txE f L p 11 = txE f L (p + 0) 11 from rfl, tx_L h h0, if_pos b1]
  have nx0 : nxE f L p = p + nxE (chL w) w.length 0 := nx_L h h0
  obtain ⟨i1, m1, m2, m3, m4⟩ := n2_L h b2
  have e2 : pHo f L D p = _ := if_pos (show kN D 6 < 6 ∧ ¬ kN D 4 = 0 by omega)
  have hnm : ∀ x, x < hh → nm2 D (205 + 21 * x + 15) 104 x := fun x hx => by rw [show 205 + 21 * x + 15 = 220 + 21 * x by omega]; exact hr x hx
  rw [e1, e2, nx0, pNe_L (q := 3) (q2 := 3) h b2 k6 hnm (Nat.le_refl hh) (by omega) k6 (a2 := 104) hnm (Or.inr rfl), pTx_L h b3, pOl_L (q := 1) h b4 k4 (fun x hx => by show nm2 D (83 + 8 * x + 2) 117 x; rw [show 83 + 8 * x + 2 = 85 + 8 * x by omega]; exact ur' x hx) hc4 (by omega), k6]
  have nw : nm2 (nmW D (220 + 21 * hh) f (p + nxE (chL w) w.length 0) (enE f L (p + nxE (chL w) w.length 0) - (p + nxE (chL w) w.length 0))) (220 + 21 * hh) 104 hh := nm2_w m2 m3 m4
  have no : ∀ x, ¬ (220 + 21 * hh ≤ x ∧ x < 220 + 21 * hh + 6) → nmW D (220 + 21 * hh) f (p + nxE (chL w) w.length 0) (enE f L (p + nxE (chL w) w.length 0) - (p + nxE (chL w) w.length 0)) x = D x := fun x hx => nmW_n hx
  generalize nmW D (220 + 21 * hh) f (p + nxE (chL w) w.length 0) (enE f L (p + nxE (chL w) w.length 0) - (p + nxE (chL w) w.length 0)) = N at *
  have key : ∀ i v1 v2 v3, h2B (chL w) w.length i b = true → ∃ D', pH2 f L hh (upd (upd (upd N (205 + 21 * hh) v1) (206 + 21 * hh) v2) (207 + 21 * hh) v3) (p + i) = some (.inr (p + w.length, D')) ∧ kN D' 6 = hh + 1 ∧ (∀ x, x < hh + 1 → nm2 D' (220 + 21 * x) 104 x) ∧ ∀ x, ¬ x = 6 → (x < 205 + 21 * hh ∨ 226 + 21 * hh ≤ x) → D' x = D x := by
    intro i v1 v2 v3 hb
    obtain ⟨D', q1, q2, q3⟩ := g_h2 (c := hh) (D := upd (upd (upd N (205 + 21 * hh) v1) (206 + 21 * hh) v2) (207 + 21 * hh) v3) h hb (by omega) (by rw [d_k (by omega), d_k (by omega), d_k (by omega), kN_e (no 6 (by omega))]; exact k6)
    refine ⟨D', q1, q2, fun x hx => ?_, fun x h1 h2 => ?_⟩
    · by_cases y : x = hh
      · rw [y]
        exact nm2_c nw (fun z hz => by rw [q3 _ (by omega) (by omega), upd_n (by omega), upd_n (by omega), upd_n (by omega)])
      · exact nm2_c (hr x (by omega)) (fun z hz => by rw [q3 _ (by omega) (by omega), upd_n (by omega), upd_n (by omega), upd_n (by omega), no _ (by omega)])
    · rw [q3 x h1 (by omega), upd_n (by omega), upd_n (by omega), upd_n (by omega), no _ (by omega)]
  unfold h1B at b5
  by_cases z : a = true
  · rw [if_pos z, Bool.and_eq_true, Bool.and_eq_true, Bool.and_eq_true, Bool.and_eq_true] at b5
    obtain ⟨d1, d2, d3, d4, d5⟩ := b5
    have i4 := tx_lt d1
    rw [tx_L h i4, if_pos d1, nx_L h i4, pNu_L h d2 (by omega) (by omega), pTx_L h d3, pNu_L h d4 (by omega) (by omega)]
    exact key _ _ _ _ d5
  · rw [if_neg z, Bool.and_eq_true] at b5
    have nt : ¬ txE (chL w) w.length (nxE (chL w) w.length (nxE (chL w) w.length (nxE (chL w) w.length (nxE (chL w) w.length 0)))) 12 = true := by
      have := b5.1; revert this
      cases txE (chL w) w.length (nxE (chL w) w.length (nxE (chL w) w.length (nxE (chL w) w.length (nxE (chL w) w.length 0)))) 12 <;> simp
    have i4 : nxE (chL w) w.length (nxE (chL w) w.length (nxE (chL w) w.length (nxE (chL w) w.length 0))) < w.length := by
      have := b5.2
      unfold h2B at this
      by_cases y : b = true
      · rw [if_pos y, Bool.and_eq_true] at this
        exact tx_lt this.1
      · rw [if_neg y, Bool.and_eq_true] at this
        have := this.2
        unfold eoB at this
        rw [Bool.and_eq_true] at this
        exact sy_lt this.1
    rw [tx_L h i4, if_neg nt]
    exact key _ _ _ _ b5.2
end Gd1
