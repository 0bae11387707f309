/-! a new parser, a cleared draft, and what is read: both sides -/
def rwN (S : St) (r g m k : Nat) : St := ur (nar S m k) g r (some m)
def poN (S : St) (r g m k : Nat) : St := ur (ur (nar (nob S m) (m + 1) k) 400 m (some (m + 1))) g r (some m)
section Nr
variable {F : Nat} {S : St} {r g m k n : Nat}
theorem sr_rwN (g' i : Nat) : sr (rwN S r g m k) g' i = if g' = g ∧ i = r then some m else sr S g' i := by
  unfold rwN
  rw [sr_ur, sr_nar]
theorem ln_rwN (i : Nat) : ln (rwN S r g m k) i = if i = m then k else ln S i := by
  unfold rwN
  rw [ln_ur, ln_nar]
theorem si_rwN : si (rwN S r g m k) = si S := rfl
theorem sr_poN (g' i : Nat) : sr (poN S r g m k) g' i = if g' = g ∧ i = r then some m else if g' = 400 ∧ i = m then some (m + 1) else if i = m then none else sr S g' i := by
  unfold poN
  rw [sr_ur, sr_ur, sr_nar, sr_nob]
theorem ln_poN (i : Nat) : ln (poN S r g m k) i = if i = m + 1 then k else ln S i := by
  unfold poN
  rw [ln_ur, ln_ur, ln_nar, ln_nob]
theorem si_poN (g' i : Nat) : si (poN S r g m k) g' i = if i = m then 0 else si S g' i := by
  unfold poN
  rw [si_ur, si_ur, si_nar, si_nob]
theorem so_rwN {i : Nat} (h1 : ¬ i = m) (h2 : ¬ i = r) : SameO S (rwN S r g m k) i := (SameO.nar h1).tr (SameO.ur _ h2)
theorem so_poN {i : Nat} (h1 : ¬ i = m) (h2 : ¬ i = m + 1) (h3 : ¬ i = r) : SameO S (poN S r g m k) i := (((SameO.nob h1).tr (SameO.nar h2)).tr (SameO.ur _ h1)).tr (SameO.ur _ h3)
theorem e_X5_8 (S : St) (n p : Nat) : f_X5_init F S n p 8 = some (ur (nar S n 8) 400 p (some n), n + 1) := by
  unfold f_X5_init
  rw [if_pos (show (0 : Int32) < 8 by decide), ck_t (by decide), kL8]
  rfl
theorem e_X5_10 (S : St) (n p : Nat) : f_X5_init F S n p 10 = some (ur (nar S n 10) 400 p (some n), n + 1) := by
  unfold f_X5_init
  rw [if_pos (show (0 : Int32) < 10 by decide), ck_t (by decide), kL10]
  rfl
theorem e_X5_6 (S : St) (n p : Nat) : f_X5_init F S n p 6 = some (ur (nar S n 6) 400 p (some n), n + 1) := by
  unfold f_X5_init
  rw [if_pos (show (0 : Int32) < 6 by decide), ck_t (by decide), kL6]
  rfl
def ruT (S : St) (r : Nat) : St :=
  rwN (rwN (rwN (rwN (poN (rwN (poN (rwN (rwN (poN (rwN (rwN (rwN (poN (ui S 601 r 1) r 602 (r + 1) 8) r 603 (r + 3) 8) r 604 (r + 4) 8) r 605 (r + 5) 8) r 606 (r + 6) 10) r 607 (r + 8) 10) r 608 (r + 9) 10) r 609 (r + 10) 6) r 610 (r + 12) 6) r 611 (r + 13) 6) r 612 (r + 15) 6) r 613 (r + 16) 6) r 614 (r + 17) 6) r 615 (r + 18) 6
theorem e_X7 : f_X7_init F S (r + 1) r = some (ruT S r, r + 19) := by
  unfold f_X7_init
  simp only [lt_eq, e_X5_8, e_X5_10, e_X5_6, ob_some, Nat.add_assoc, Nat.reduceAdd]
  rfl
theorem ruT_ru : ruZ (ruT S r) r := by
  refine ⟨⟨fun q hq => ?_, fun q hq => ?_⟩, ?_, ?_, ?_, ?_⟩
  · simp only [ruR, List.mem_cons, List.not_mem_nil, or_false] at hq
    unfold ruT
    rcases hq with rfl | rfl | rfl | rfl | rfl | rfl | rfl | rfl | rfl | rfl | rfl | rfl | rfl | rfl | rfl | rfl | rfl | rfl <;> simp (disch := omega) only [sr_rwN, sr_poN, if_pos, if_neg, if_true, true_and, and_true, Nat.add_zero, Nat.add_assoc, Nat.reduceAdd]
  · simp only [ruL, List.mem_cons, List.not_mem_nil, or_false] at hq
    unfold ruT
    rcases hq with rfl | rfl | rfl | rfl | rfl | rfl | rfl | rfl | rfl | rfl | rfl | rfl | rfl | rfl <;> simp (disch := omega) only [ln_rwN, ln_poN, if_pos, if_neg, if_true, true_and, and_true, Nat.add_zero, Nat.add_assoc, Nat.reduceAdd]
  · unfold ruT
    simp (disch := omega) only [si_rwN, si_poN, if_pos, if_neg, if_true, true_and, and_true, Nat.add_zero, Nat.add_assoc, Nat.reduceAdd]
  · unfold ruT
    simp (disch := omega) only [si_rwN, si_poN, if_pos, if_neg, if_true, true_and, and_true, Nat.add_zero, Nat.add_assoc, Nat.reduceAdd]
  · unfold ruT
    simp (disch := omega) only [si_rwN, si_poN, if_pos, if_neg, if_true, true_and, and_true, Nat.add_zero, Nat.add_assoc, Nat.reduceAdd]
  · unfold ruT
    simp (disch := omega) only [si_rwN, si_poN, if_pos, if_neg, if_true, true_and, and_true, Nat.add_zero, Nat.add_assoc, Nat.reduceAdd]
theorem ruT_so {i : Nat} (h : ¬ (r ≤ i ∧ i ≤ r + 18)) : SameO S (ruT S r) i := by
  unfold ruT
  refine SameO.tr ?_ (so_rwN (by omega) (by omega))
  refine SameO.tr ?_ (so_rwN (by omega) (by omega))
  refine SameO.tr ?_ (so_rwN (by omega) (by omega))
  refine SameO.tr ?_ (so_rwN (by omega) (by omega))
  refine SameO.tr ?_ (so_poN (by omega) (by omega) (by omega))
  refine SameO.tr ?_ (so_rwN (by omega) (by omega))
  refine SameO.tr ?_ (so_poN (by omega) (by omega) (by omega))
  refine SameO.tr ?_ (so_rwN (by omega) (by omega))
  refine SameO.tr ?_ (so_rwN (by omega) (by omega))
  refine SameO.tr ?_ (so_poN (by omega) (by omega) (by omega))
  refine SameO.tr ?_ (so_rwN (by omega) (by omega))
  refine SameO.tr ?_ (so_rwN (by omega) (by omega))
  refine SameO.tr ?_ (so_rwN (by omega) (by omega))
  refine SameO.tr ?_ (so_poN (by omega) (by omega) (by omega))
  exact SameO.ui _ (by omega)
theorem e_parser (F : Nat) (S : St) (n : Nat) : ∃ C0, f_X6_init F (nob S n) (n + 1) n 20 = some (C0, n + 20) ∧ ruZ C0 (n + 1) ∧ (∀ k, k < n → SameO S C0 k) ∧ sr C0 500 n = some 20 ∧ sr C0 501 n = some (n + 1) ∧ si C0 502 n = 0 ∧ si C0 503 n = -1 ∧ si C0 504 n = 0 := by
  obtain ⟨S1, hS1⟩ : ∃ S1, S1 = nob (ur (nob S n) 500 n (some 20)) (n + 1) := ⟨_, rfl⟩
  have so1 : ∀ k, k < n → SameO S S1 k := fun k hk => by rw [hS1]; exact ((SameO.nob (by omega)).tr (SameO.ur _ (by omega))).tr (SameO.nob (by omega))
  have zn : ∀ g, si S1 g n = 0 := fun g => by rw [hS1, si_nob, if_neg (by omega), si_ur, si_nob, if_pos rfl]
  have s5 : sr S1 500 n = some 20 := by rw [hS1, sr_nob, if_neg (by omega), sr_ur, if_pos ⟨rfl, rfl⟩]
  have so2 : ∀ k, k ≤ n → SameO S1 (ruT S1 (n + 1)) k := fun k hk => ruT_so (by omega)
  refine ⟨ui (ur (ruT S1 (n + 1)) 501 n (some (n + 1))) 503 n (-1), ?_, ?_, fun k hk => (((so1 k hk).tr (so2 k (by omega))).tr (SameO.ur _ (by omega))).tr (SameO.ui _ (by omega)), ?_, ?_, ?_, ?_, ?_⟩
  · unfold f_X6_init
    simp only [lt_eq]
    rw [← hS1, e_X7, ob_some]
  · obtain ⟨⟨a1, a2⟩, a3, a4, a5, a6⟩ := ruT_ru (S := S1) (r := n + 1)
    refine ⟨⟨fun q hq => ?_, fun q hq => a2 q hq⟩, ?_, ?_, ?_, ?_⟩
    · rw [sr_ui, sr_ur, if_neg (by omega)]
      exact a1 q hq
    · rw [si_ui, if_neg (by omega)]; exact a3
    · rw [si_ui, if_neg (by omega)]; exact a4
    · rw [si_ui, if_neg (by omega)]; exact a5
    · rw [si_ui, if_neg (by omega)]; exact a6
  · rw [sr_ui, sr_ur, if_neg (by omega), (so2 n (by omega)).2.1]; exact s5
  · rw [sr_ui, sr_ur, if_pos ⟨rfl, rfl⟩]
  · rw [si_ui, if_neg (by omega), si_ur, (so2 n (by omega)).1]; exact zn _
  · rw [si_ui, if_pos ⟨rfl, rfl⟩]
  · rw [si_ui, if_neg (by omega), si_ur, (so2 n (by omega)).1]; exact zn _
/-- the draft is cleared -/
theorem m_clear : ∀ d k fu S, k + d = 6391 → d < fu → FxF S → ∃ T, f_X11_load_L35 F fu S 197 (nI k) = (Option.bind (f_X11_scan F (ur T 1004 197 (some 199)) 197) fun S73 => sp1 F S73) ∧ D9 S T ∧ (∀ x, k ≤ x → x < 6391 → ai T 199 x = 0) ∧ ∀ x, x < k → ai T 199 x = ai S 199 x := by
  intro d
  induction d with
  | zero =>
    intro k fu S hk hfu hx
    obtain ⟨fu, rfl⟩ : ∃ f', fu = f' + 1 := ⟨fu - 1, by omega⟩
    obtain rfl : k = 6391 := by omega
    refine ⟨S, ?_, Mf.rf S, fun x a b => by omega, fun _ _ => rfl⟩
    rw [sp_eq, hx.r1002_197, ob_some]
    rfl
  | succ d ih =>
    intro k fu S hk hfu hx
    obtain ⟨fu, rfl⟩ : ∃ f', fu = f' + 1 := ⟨fu - 1, by omega⟩
    obtain ⟨S1, hS1⟩ : ∃ S1, S1 = uai S 199 k 0 := ⟨_, rfl⟩
    have d1 : D9 S S1 := by rw [hS1]; exact D9.uai _
    obtain ⟨T, t1, t2, t3, t4⟩ := ih (k + 1) fu S1 (by omega) (by omega) (d1.fx hx)
    refine ⟨T, ?_, d1.tr t2, fun x a b => ?_, fun x a => ?_⟩
    · unfold f_X11_load_L35
      rw [if_neg (show ¬ (6391 : Int32) ≤ nI k from nI_ge (b := 6391) (by omega) (by omega)), hx.r1002_197, ob_some, hx.l199, cki_nI (by omega) (by omega), nI_clamp (by omega)]
      simp only [lt_eq]
      rw [nI_1, ← hS1]
      exact t1
    · by_cases y : x = k
      · rw [y, t4 k (by omega), hS1, ai_uaiE, upd_e]
      · exact t3 x (by omega) b
    · rw [t4 x (by omega), hS1, ai_uaiE, upd_n (by omega)]
/-- what is read -/
theorem s_read {f : Nat → Int32} {L : Nat} {C0 M0 : St} (hx : FxF C0) (hi : Inp C0 f L) (hn : 212 ≤ n) (hR : ruZ C0 (n + 1)) (h5 : sr C0 500 n = some 20) (h51 : sr C0 501 n = some (n + 1)) (e2 : si C0 502 n = 0) (e3 : si C0 503 n = -1) (e4 : si C0 504 n = 0)
    (mx : FxF M0) (mi : InM M0 f L) (m9 : si M0 1009 197 = 0) (m13 : si M0 1013 197 = 0) (m14 : si M0 1014 197 = -1) (m4 : sr M0 1004 197 = some 199) (mz : ∀ x, x < 6391 → ai M0 199 x = 0) (hF : 10000 ≤ F) :
    Rd f L n (n + 1) C0 M0 F (f_X6_parse F C0 n) (Option.bind (f_X11_scan F M0 197) fun S73 => sp1 F S73) := by
  have hL := hi.1
  obtain ⟨C1, a1, a2, a3⟩ := e_next (F := F) (f := f) (L := L) hx hi hn h5 (p := 0) (by omega) e4 hF
  obtain ⟨M1, b1, b2, b3⟩ := m_scan (F := F) (f := f) (L := L) mx mi (p := 0) (by omega) m9 hF
  have e199 : ai M1 199 = ai M0 199 := b2.2.2.1 199 (fun z => z)
  have rf0 : Rf n (n + 1) C0 C0 := fun k _ => ⟨fun _ _ => rfl, fun _ => rfl, rfl, rfl, rfl, rfl⟩
  have g : Gs f L n (n + 1) C0 M0 (ai M1 199) C1 M1 (nbK f L 0) := ⟨rfl, a2.fx hn hx, a2.inp hn hi, hn, by omega, (a2.2.1 500 (by omega)).trans h5, (a2.2.1 501 (by omega)).trans h51, a3, ⟨b2.fx mx, mi.fr b2, b3, by rw [b2.2.1 1013 197 (fun z => by have := z.2; unfold scM at this; omega)]; exact m13, by rw [b2.1]; exact m4⟩, ⟨(b2.2.1 1014 197 (fun z => by have := z.2; unfold scM at this; omega)).trans m14, (a2.2.2.1 502 (by omega) (by omega)).trans e2, (a2.2.2.1 503 (by omega) (by omega)).trans e3⟩, rf0.pa a2, b2.mono (fun k z => by unfold scM at z; unfold scE; omega) (fun k z => False.elim z)⟩
  unfold f_X6_parse
  rw [a1, ob_some, b1, ob_some]
  rcases s_spool (F := F) g (fun k hk => by rw [e199]; exact mz k hk) hR hF with ⟨D', C', M', s', c1, c2, c3⟩ | ⟨C', M', c1, c2, c3⟩
  · rw [c1, ob_some, c2]
    simp only [lt_eq]
    exact s_loop hF L F F C' M' s' D' 0 (by omega) (by omega) (by omega) (by omega) c3
  · rw [c1, ob_some]
    simp only [lt_eq]
    refine Or.inr ⟨C', M', ?_, c2, c3⟩
    obtain ⟨fu, hfu⟩ : ∃ f', F = f' + 1 := ⟨F - 1, by omega⟩
    rw [hfu]
    unfold f_X6_parse_L11
    rw [c3.2.2, ob_some, ck_t (Or.inl rfl), if_pos rfl]
    by_cases y : si C' 1 20 ≤ 0
    · rw [if_pos y]
    · rw [if_neg y]
end Nr
