/-! a new parser, a cleared draft, and what is read: both sides -/
def rwN (S : St) (r g m k : Nat) : St := ur (nar S m k) g r (some m)
def poN (S : St) (r g m k : Nat) : St := ur (ur (nar (nob S m) (m + 1) k) 400 m (some (m + 1))) g r (some m)
section Nr
variable {F : Nat} {S : St} {r g m k n : Nat}
theorem sr_rwN (g' i : Nat) : sr (rwN S r g m k) g' i = if g' = g ∧ i = r then some m else sr S g' i := by
  unfold rwN
  rw [sr_ur, sr_nar]
theorem ln_rwN (i : Nat) : ln (rwN S r g m k) i = if i = m then k else ln S i := by
  unfold rwN
  rw [ln_ur, ln_nar]
theorem si_rwN : si (rwN S r g m k) = si S := rfl
theorem sr_poN (g' i : Nat) : sr (poN S r g m k) g' i = if g' = g ∧ i = r then some m else if g' = 400 ∧ i = m then some (m + 1) else if i = m then none else sr S g' i := by
  unfold poN
  rw [sr_ur, sr_ur, sr_nar, sr_nob]
theorem ln_poN (i : Nat) : ln (poN S r g m k) i = if i = m + 1 then k else ln S i := by
  unfold poN
  rw [ln_ur, ln_ur, ln_nar, ln_nob]
theorem si_poN (g' i : Nat) : si (poN S r g m k) g' i = if i = m then 0 else si S g' i := by
  unfold poN
  rw [si_ur, si_ur, si_nar, si_nob]
theorem so_rwN {i : Nat} (h1 : ¬ i = m) (h2 : ¬ i = r) : SameO S (rwN S r g m k) i := (SameO.nar h1).tr (SameO.ur _ h2)
theorem so_poN {i : Nat} (h1 : ¬ i = m) (h2 : ¬ i = m + 1) (h3 : ¬ i = r) : SameO S (poN S r g m k) i := (((SameO.nob h1).tr (SameO.nar h2)).tr (SameO.ur _ h1)).tr (SameO.ur _ h3)
theorem e_X5_8 (S : St) (n p : Nat) : f_X5_init F S n p 8 = some (ur (nar S n 8) 400 p (some n), n + 1) := by
  unfold f_X5_init
  rw [if_pos (show (0 : Int32) < 8 by decide), ck_t (by decide), kL8]
  rfl
theorem e_X5_10 (S : St) (n p : Nat) : f_X5_init F S n p 10 = some (ur (nar S n 10) 400 p (some n), n + 1) := by
  unfold f_X5_init
  rw [if_pos (show (0 : Int32) < 10 by decide), ck_t (by decide), kL10]
  rfl
theorem e_X5_6 (S : St) (n p : Nat) : f_X5_init F S n p 6 = some (ur (nar S n 6) 400 p (some n), n + 1) := by
  unfold f_X5_init
  rw [if_pos (show (0 : Int32) < 6 by decide), ck_t (by decide), kL6]
  rfl
def ruT (S : St) (r : Nat) : St :=
  rwN (rwN (rwN (rwN (poN (rwN (poN (rwN (rwN (poN (rwN (rwN (rwN (poN (ui S 601 r 1) r 602 (r + 1) 8) r 603 (r + 3) 8) r 604 (r + 4) 8) r 605 (r + 5) 8) r 606 (r + 6) 10) r 607 (r + 8) 10) r 608 (r + 9) 10) r 609 (r + 10) 6) r 610 (r + 12) 6) r 611 (r + 13) 6) r 612 (r + 15) 6) r 613 (r + 16) 6) r 614 (r + 17) 6) r 615 (r + 18) 6
theorem e_X7 : f_X7_init F S (r + 1) r = some (ruT S r, r + 19) := by
  unfold f_X7_init
  simp only [lt_eq, e_X5_8, e_X5_10, e_X5_6, ob_some, Nat.add_assoc, Nat.reduceAdd]
  rfl
theorem ruT_ru : ruZ (ruT S r) r := by
  refine ⟨⟨fun q hq => ?_, fun q hq => ?_⟩, ?_, ?_, ?_, ?_⟩
  · simp only [ruR, List.mem_cons, List.not_mem_nil, or_false] at hq
    unfold ruT
    rcases hq with rfl | rfl | rfl | rfl | rfl | rfl | rfl | rfl | rfl | rfl | rfl | rfl | rfl | rfl | rfl | rfl | rfl | rfl <;> simp (disch := omega) only [sr_rwN, sr_poN, if_pos, if_neg, if_true, true_and, and_true, Nat.add_zero, Nat.add_assoc, Nat.reduceAdd]
  · simp only [ruL, List.mem_cons, List.not_mem_nil, or_false] at hq
    unfold ruT
    rcases hq with rfl | rfl | rfl | rfl | rfl | rfl | rfl | rfl | rfl | rfl | rfl | rfl | rfl | rfl <;> simp (disch := omega) only [ln_rwN, ln_poN, if_pos, if_neg, if_true, true_and, and_true, Nat.add_zero, Nat.add_assoc, Nat.reduceAdd]
  · unfold ruT
    simp (disch := omega) only [si_rwN, si_poN, if_pos, if_neg, if_true, true_and, and_true, Nat.add_zero, Nat.add_assoc, Nat.reduceAdd]
  · unfold ruT
    simp (disch := omega) only [si_rwN, si_poN, if_pos, if_neg, if_true, true_and, and_true, Nat.add_zero, Nat.add_assoc, Nat.reduceAdd]
  · unfold ruT
    simp (disch := omega) only [si_rwN, si_poN, if_pos, if_neg, if_true, true_and, and_true, Nat.add_zero, Nat.add_assoc, Nat.reduceAdd]
  · unfold ruT
    simp (disch := omega) only [si_rwN, si_poN, if_pos, if_neg, if_true, true_and, and_true, Nat.add_zero, Nat.add_assoc, Nat.reduceAdd]
theorem ruT_so {i : Nat} (h : ¬ (r ≤ i ∧ i ≤ r + 18)) : SameO S (ruT S r) i := by
  unfold ruT
  refine SameO.tr ?_ (so_rwN (by omega) (by omega))
  refine SameO.tr ?_ (so_rwN (by omega) (by omega))
  refine SameO.tr ?_ (so_rwN (by omega) (by omega))
  refine SameO.tr ?_ (so_rwN (by omega) (by omega))
  refine SameO.tr ?_ (so_poN (by omega) (by omega) (by omega))
  refine SameO.tr ?_ (so_rwN (by omega) (by omega))
  refine SameO.tr ?_ (so_poN (by omega) (by omega) (by omega))
  refine SameO.tr ?_ (so_rwN (by omega) (by omega))
  refine SameO.tr ?_ (so_rwN (by omega) (by omega))
  refine SameO.tr ?_ (so_poN (by omega) (by omega) (by omega))
  refine SameO.tr ?_ (so_rwN (by omega) (by omega))
  refine SameO.tr ?_ (so_rwN (by omega) (by omega))
  refine SameO.tr ?_ (so_rwN (by omega) (by omega))
  refine SameO.tr ?_ (so_poN (by omega) (by omega) (by omega))
  exact SameO.ui _ (by omega)
theorem e_parser (F : Nat) (S : St) (n : Nat) : ∃ C0, f_X6_init F (nob S n) (n + 1) n 20 = some (C0, n + 20) ∧ ruZ C0 (n + 1) ∧ (∀ k, k < n → SameO S C0 k) ∧ sr C0 500 n = some 20 ∧ sr C0 501 n = some (n + 1) ∧ si C0 502 n = 0 ∧ si C0 503 n = -1 ∧ si C0 504 n = 0 := by
  obtain ⟨S1, hS1⟩ : ∃ S1, S1 = nob (ur (nob S n) 500 n (some 20)) (n + 1) := ⟨_, rfl⟩
  have so1 : ∀ k, k < n → SameO S S1 k := fun k hk => by rw [hS1]; exact ((SameO.nob (by omega)).tr (SameO.ur _ (by omega))).tr (SameO.nob (by omega))
  have zn : ∀ g, si S1 g n = 0 := fun g => by rw [hS1, si_nob, if_neg (by omega), si_ur, si_nob, if_pos rfl]
  have s5 : sr S1 500 n = some 20 := by rw [hS1, sr_nob, if_neg (by omega), sr_ur, if_pos ⟨rfl, rfl⟩]
  have so2 : ∀ k, k ≤ n → SameO S1 (ruT S1 (n + 1)) k := fun k hk => ruT_so (by omega)
  refine ⟨ui (ur (ruT S1 (n + 1)) 501 n (some (n + 1))) 503 n (-1), ?_, ?_, fun k hk => (((so1 k hk).tr (so2 k (by omega))).tr (SameO.ur _ (by omega))).tr (SameO.ui _ (by omega)), ?_, ?_, ?_, ?_, ?_⟩
  · unfold f_X6_init
    simp only [lt_eq]
    rw [← hS1, e_X7, ob_some]
  · obtain ⟨⟨a1, a2⟩, a3, a4, a5, a6⟩ := ruT_ru (S := S1) (r := n + 1)
    refine ⟨⟨fun q hq => ?_, fun q hq => a2 q hq⟩, ?_, ?_, ?_, ?_⟩
    · rw [sr_ui, sr_ur, if_neg (by omega)]
      exact a1 q hq
    · rw [si_ui, if_neg (by omega)]; exact a3
    · rw [si_ui, if_neg (by omega)]; exact a4
    · rw [si_ui, if_neg (by omega)]; exact a5
    · rw [si_ui, if_neg (by omega)]; exact a6
  · rw [sr_ui, sr_ur, if_neg (by omega), (so2 n (by omega)).2.1]; exact s5
  · rw [sr_ui, sr_ur, if_pos ⟨rfl, rfl⟩]
  · rw [si_ui, if_neg (by omega), si_ur, (so2 n (by omega)).1]; exact zn _
  · rw [si_ui, if_pos ⟨rfl, rfl⟩]
  · rw [si_ui, if_neg (by omega), si_ur, (so2 n (by omega)).1]; exact zn _
end Nr
