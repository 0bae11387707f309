/-! the law's deliver -/
section Ld
variable {F : Nat} {S0 S : St} {b n n0 m : Nat} {l : List Int32} {X : XS} {N B : Nat → Int32}
theorem b_bar (h : Bd S0 S b n0 n l) (hq : l.length + 1 ≤ 400) : ∃ T n', f_J4_append_cf468 F S n b 124 = some (some b, T, n') ∧ n ≤ n' ∧ Bd S0 T b n0 n' (l ++ [124]) := by
  obtain ⟨⟨v, v1, v2, v3⟩, ⟨b1, b2⟩, fr⟩ := id h
  obtain ⟨T, n', e, r⟩ := e_appC (F := F) (c := 124) v1 b1 v2 b2 v3 (by omega) hq
  exact ⟨T, n', e, h.of r⟩
/-- the text is built -/
theorem ld_txt (hX : X.2 ≤ 260) (hm : m < 100) (hn0 : 197 ≤ n0) : ∀ d i fu S n, i + 1 + d = paX X m → d < fu → Bd S0 S b n0 n (mtX X m i) → n0 ≤ n →
    ∃ T n' y, (∀ k, k < n0 → SameO S0 T k) ∧ n ≤ n' ∧ Tx T n' (y + 41) (mtL X m) ∧ f_L_deliver_L20 F fu S n 0 X (nI m) b (nI (i + 1)) = (Option.bind (f_L_feed F T 0 (y + 41)) fun S19 =>
      Option.bind (f_L_recipients F S19 X (nI m)) fun z22 => lt z22.1 fun r24 => lt z22.2 fun S23 =>
      Option.bind (f_L_special F S23 X (nI m)) fun z26 => lt z26.1 fun r28 => lt z26.2 fun S27 =>
      Option.bind (f_X10_deliver F S27 n' 0 0 r24 r28) fun z30 => lt z30.2.1 fun S31 => lt z30.2.2 fun n33 =>
      sm z30.1 (fun _ => none) (fun r32 => some (r32, S31, n33))) := by
  intro d
  have pb := paX_b X m
  induction d with
  | zero =>
    intro i fu S n hi hfu h hn
    obtain ⟨fu, rfl⟩ : ∃ q, fu = q + 1 := ⟨fu - 1, by omega⟩
    obtain ⟨⟨v, v1, v2, v3⟩, ⟨b1, b2⟩, fr⟩ := h
    obtain ⟨T, n', e, t1, t2, t3⟩ := e_toS (F := F) v1 b2 v3 (by omega)
    have el : mtX X m i = mtL X m := by unfold mtL; rw [show paX X m - 1 = i by omega]
    rw [el] at t1
    refine ⟨T, n', n, fun k hk => (fr k hk).tr (t3 k (by omega)), by omega, t1, ?_⟩
    unfold f_L_deliver_L20
    rw [e_parts hX hm, ob_some]
    simp only [lt_eq]
    rw [if_pos (nI_le (by omega) (by omega)), e, ob_some]
  | succ d ih =>
    intro i fu S n hi hfu h hn
    obtain ⟨fu, rfl⟩ : ∃ q, fu = q + 1 := ⟨fu - 1, by omega⟩
    have so := soX_b X m (i + 1)
    have ll := mt_len (X := X) (m := m) i
    have sb := szP_b X m (i + 1)
    have pl := ptL_b _ so
    obtain ⟨T1, n1, e1, m1, h1⟩ := b_bar (F := F) h (by omega)
    obtain ⟨T2, n2, e2, m2, h2⟩ := b_S (F := F) (x := 15 + soX X m (i + 1)) h1 (Tx.cst (by omega)) (pt_asc so) (by rw [List.length_append, List.length_append]; show _ + 1 + (ptL (soX X m (i + 1))).length ≤ _; omega)
    have e3 : mtX X m i ++ [124] ++ msB.getD (15 + soX X m (i + 1)) [] = mtX X m (i + 1) := by rw [mt_s, List.append_assoc]; rfl
    rw [e3] at h2
    obtain ⟨T, n', y, t1, t2, t3, t4⟩ := ih (i + 1) fu T2 n2 (by omega) (by omega) h2 (by omega)
    refine ⟨T, n', y, t1, by omega, t3, ?_⟩
    rw [← t4]
    conv => lhs; unfold f_L_deliver_L20
    rw [e_parts hX hm, ob_some]
    simp only [lt_eq]
    rw [if_neg (nI_ge (by omega) (by omega)), e1, ob_some]
    simp only [ob_some]
    rw [e_sort hX hm (by omega), ob_some]
    simp only []
    rw [e_part so, ob_some]
    simp only []
    rw [e2, ob_some]
    simp only [ob_some]
    rw [nI_1]
theorem e_Ldel {P : PS} {us ab : Nat → Nat} {many ev : Nat} (hX : X.2 ≤ 260) (hm : m < 100) (rq : RQ S n N B) (h0 : si S 1 20 = 0) (h : LN X N B P us ab many ev) (h7 : many < 100) (hb : P.2.2 ≤ 100) (hF : 100000 ≤ F) :
    ∃ T nT, f_L_deliver F S n 0 X (nI m) = some (if bX X m N = reX X m then -2 else nI many, T, nT) ∧ RQ T nT (afX X m N B) (afY X m N B) ∧ si T 1 20 = 0 ∧ n ≤ nT ∧ (∀ k, 197 ≤ k → k < n → SameO S T k) ∧ sr T 700 27 = sr S 700 27 ∧
      (bX X m N = reX X m → ar T 29 = ar S 29) ∧ (¬ bX X m N = reX X m → (∃ j, n ≤ j ∧ ar T 29 many = some j) ∧ ∀ x, ¬ x = many → ar T 29 x = ar S 29 x) := by
  have hn := rq.1
  have pb := paX_b X m
  have ux := usX_b X
  have rb := reX_b X m
  have rl := re_lt (X := X) (m := m)
  have so := soX_b X m 0
  have k4 : kN N 4 = usX X := h.1.2.1
  have k7 : kN N 7 = many := h.2.2.1.1
  have wb := rq.2.2.2.c0.wb
  have z3 : si (nob S n) 1003 n = 0 := by rw [si_nob, if_pos rfl]
  have z1 : si (nob S n) 1001 n = 0 := by rw [si_nob, if_pos rfl]
  obtain ⟨T1, n1, d1, ⟨⟨v, v1, v2, v3⟩, o2, o3, o4⟩⟩ := e_newS (F := F) (S := nob S n) (b := n) (m := n) (n := n + 1) (x := 15 + soX X m 0) (t := ptL (soX X m 0)) (by omega) (Nat.le_refl _) (Tx.cst (by omega)) (pt_asc so) (by have := (ptL_b _ so).2; omega) z3 z1
  have h1 : Bd S T1 n n n1 (mtX X m 0) := ⟨⟨v, v1, v2, v3⟩, ⟨Nat.le_refl _, o2⟩, fun i hi => (SameO.nob (by omega)).tr (o4 i hi)⟩
  obtain ⟨T2, n2, y, t1, t2, t3, t4⟩ := ld_txt (F := F) hX hm hn (paX X m - 1) 0 5 T1 n1 (by omega) (by omega) h1 (by omega)
  have rq2 : RQ T2 n2 N B := rq.grow (by omega) t1
  have s20 : si T2 1 20 = 0 := by rw [(t1 20 (by omega)).1]; exact h0
  obtain ⟨T3, e3, f3, i3⟩ := e_feed (F := F) (m := n2) (x := y + 41) mt_ok (by have := mt_L2 (X := X) (m := m); omega) (by omega) rq2.2.1 t3 s20
  have rq3 : RQ T3 n2 N B := rq2.fed f3
  obtain ⟨v, w1, w2⟩ := bw_le (X := X) (m := m) (B := B) wb.n8.2 h.2.1.2.2 (paX X m) (Nat.le_refl _)
  have hbw : bwN N B (chL (mtL X m)) (mtL X m).length (kC (chL (mtL X m)) (mtL X m).length) ≤ 8000 := by
    rw [mt_k, w2]
    exact nI_le (b := 8000) (by omega) (by omega)
  obtain ⟨T, nT, q1, q2, q3, q4, q5, q6, q7, q8⟩ := e_delv (F := F) (rec := reX X m) (c := spI X m) rq3 i3 mt_gd (by omega) hbw (by omega) (by omega) (by rw [k4]; exact rb.2) (fun u hu => by rw [k4]; exact re_tb hu) (spI_c h.1.1) hF
  have sz := mt_sz (X := X) (m := m)
  rw [sz, k7] at q1
  rw [sz] at q7 q8
  rw [k7] at q8
  have lo : ∀ k, 197 ≤ k → k < n → SameO S T3 k := fun k a b => (t1 k b).tr (f3.so (by omega) (by omega))
  have a3 : ar T3 29 = ar S 29 := by rw [f3.2.2.2.2.1]; exact (t1 29 (by omega)).2.2.2.2.1
  refine ⟨T, nT, ?_, q2, q3, by omega, fun k a b => (lo k a b).tr (q5 k a (by omega)), ?_, fun z => ?_, fun z => ?_⟩
  · unfold f_L_deliver
    rw [lt_eq, lt_eq, e_sort0 hX hm, ob_some]
    simp only [lt_eq]
    rw [e_part so, ob_some]
    simp only []
    rw [d1, ob_some]
    simp only []
    have t4' : f_L_deliver_L20 F 5 T1 n1 0 X (nI m) n 1 = _ := t4
    rw [t4', e3, ob_some, e_recipients hX hm, ob_some]
    simp only [lt_eq]
    rw [e_special hX hm, ob_some]
    simp only []
    rw [q1, ob_some]
    rfl
  · rw [q6, f3.1, (t1 27 (by omega)).2.1]
  · rw [q7 z, a3]
  · obtain ⟨r1, r2⟩ := q8 z
    exact ⟨⟨n2, by omega, r1⟩, fun x hx => by rw [r2 x hx, a3]⟩
end Ld
