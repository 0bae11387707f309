/-! calls that ask, III -/
def livA (N : Nat → Int32) (u : Nat) (c : Int32) (k0 : Nat) : Int32 := runN (fun k a => if ¬ stN N k u = 0 then a else if ¬ clN N k u = c then a else a + 1) (kN N 7 - k0) k0 0
noncomputable def atN (N : Nat → Int32) (i : Nat) : Option Nat := runL (fun q (a : Nat) => if isN N q = 1 then (if a = i then .inl (some q) else .inr (a + 1)) else .inr a) (fun _ => (none : Option Nat)) (kN N 8) 0 0
theorem atN_run {N : Nat → Int32} {i : Nat} : ∀ c k a, runL (fun q (a : Nat) => if isN N q = 1 then (if a = i then .inl (nI q) else .inr (a + 1)) else .inr a) (fun _ => (-1 : Int32)) c k a = (match runL (fun q (a : Nat) => if isN N q = 1 then (if a = i then .inl (some q) else .inr (a + 1)) else .inr a) (fun _ => (none : Option Nat)) c k a with
    | some q => nI q
    | none => -1) := by
  intro c
  induction c with
  | zero => intro k a; rfl
  | succ c ih =>
    intro k a
    unfold runL
    by_cases h1 : isN N k = 1
    · by_cases h2 : a = i
      · simp only [h1, h2, if_true]
      · simp only [h1, h2, if_true, if_false]; exact ih (k + 1) (a + 1)
    · simp only [h1, if_false]; exact ih (k + 1) a
theorem atN_some {N : Nat → Int32} {i : Nat} : ∀ c k, cntP (fun q => isN N q = 1) k ≤ i → ((∃ q, runL (fun q (a : Nat) => if isN N q = 1 then (if a = i then .inl (some q) else .inr (a + 1)) else .inr a) (fun _ => (none : Option Nat)) c k (cntP (fun q => isN N q = 1) k) = some q ∧ q < k + c) ∧ i < cntP (fun q => isN N q = 1) (k + c)) ∨ (runL (fun q (a : Nat) => if isN N q = 1 then (if a = i then .inl (some q) else .inr (a + 1)) else .inr a) (fun _ => (none : Option Nat)) c k (cntP (fun q => isN N q = 1) k) = none ∧ ¬ i < cntP (fun q => isN N q = 1) (k + c)) := by
  intro c
  induction c with
  | zero => intro k h; exact Or.inr ⟨rfl, by show ¬ i < cntP _ k; omega⟩
  | succ c ih =>
    intro k h
    unfold runL
    have hs := cntP_s (fun q => isN N q = 1) k
    by_cases h1 : isN N k = 1
    · rw [pif_t h1] at hs
      by_cases h2 : cntP (fun q => isN N q = 1) k = i
      · simp only [h1, h2, if_true]
        refine Or.inl ⟨⟨k, rfl, by omega⟩, ?_⟩
        have : ∀ b, k + 1 ≤ b → cntP (fun q => isN N q = 1) (k + 1) ≤ cntP (fun q => isN N q = 1) b := by
          intro b
          induction b with
          | zero => intro z; omega
          | succ b ihb =>
            intro z
            by_cases y : k + 1 = b + 1
            · rw [y]; exact Nat.le_refl _
            · rw [cntP_s _ b]
              exact Nat.le_trans (ihb (by omega)) (Nat.le_add_right _ _)
        have := this (k + (c + 1)) (by omega)
        omega
      · simp only [h1, h2, if_true, if_false]
        have := ih (k + 1) (by omega)
        rw [hs, show k + 1 + c = k + (c + 1) by omega] at this
        exact this
    · simp only [h1, if_false]
      rw [pif_f h1] at hs
      have := ih (k + 1) (by omega)
      rw [hs, show k + 1 + c = k + (c + 1) by omega] at this
      exact this
theorem atN_lt {N : Nat → Int32} {i : Nat} : (∃ q, atN N i = some q ∧ q < kN N 8) ∧ i < cntP (fun q => isN N q = 1) (kN N 8) ∨ atN N i = none ∧ ¬ i < cntP (fun q => isN N q = 1) (kN N 8) := by
  have := atN_some (N := N) (i := i) (kN N 8) 0 (Nat.zero_le _)
  rw [Nat.zero_add] at this
  exact this
theorem mod60 {a : Nat} (h : a < 200) : nI a - nI a / 60 * 60 = nI (a % 60) := (show ∀ a, a < 200 → nI a - nI a / 60 * 60 = nI (a % 60) by decide +kernel) a h
theorem and255 {v : Int32} (h : 0 ≤ v ∧ v ≤ 127) : v &&& 255 = v := by
  obtain ⟨k, hk, rfl⟩ := nI_of2 (M := 127) (n := 127) rfl (le_nlt.mp h.1) h.2
  exact (show ∀ k, k ≤ 127 → nI k &&& 255 = nI k by decide +kernel) k hk
noncomputable def kpN (N : Nat → Int32) (q : Nat) : Nat := cntP (fun m => hasN N m q ∧ keptN N m) (kN N 7)
noncomputable def bestS (N : Nat → Int32) (q : Nat) (b : Option Nat) : Option Nat := if isN N q = 1 then (match b with
    | none => if 0 < kpN N q then some q else none
    | some b' => if kpN N b' < kpN N q then some q else some b') else b
def encO (b : Option Nat) : Int32 := match b with
  | none => -1
  | some q => nI q
section A
variable {F : Nat} {xs : Nat → Int32} {L : Nat} {S : St} {n : Nat} {i : Int32}
end A
