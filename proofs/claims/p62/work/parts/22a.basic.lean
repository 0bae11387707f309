/-! numbers, booleans, and the small methods -/
theorem litI (k : Nat) : (OfNat.ofNat k : Int32) = nI k := rfl
theorem nI_mul (a b : Nat) : nI a * nI b = nI (a * b) := (Int32.ofNat_mul a b).symm
theorem cki_nI {β : Type} {k n : Nat} {x : Option β} (h : k < n) (hn : n < 2 ^ 31) : cki (nI k) n x = x := cki_t (vp_in_nI h hn)
def bI (c : Prop) [Decidable c] : Int32 := if c then 1 else 0
theorem bI01 (c : Prop) [Decidable c] : bI c = 0 ∨ bI c = 1 := by
  unfold bI
  by_cases h : c
  · rw [if_pos h]; exact Or.inr rfl
  · rw [if_neg h]; exact Or.inl rfl
theorem bI_t {c : Prop} [Decidable c] (h : c) : bI c = 1 := if_pos h
theorem bI_f {c : Prop} [Decidable c] (h : ¬ c) : bI c = 0 := if_neg h
theorem bI_0 {c : Prop} [Decidable c] : bI c = 0 ↔ ¬ c := by
  by_cases h : c
  · rw [bI_t h]; exact ⟨fun e => absurd e (by decide), fun e => absurd h e⟩
  · rw [bI_f h]; exact ⟨fun _ => h, fun _ => rfl⟩
theorem bI_1 {c : Prop} [Decidable c] : bI c = 1 ↔ c := by
  by_cases h : c
  · rw [bI_t h]; exact ⟨fun _ => h, fun _ => rfl⟩
  · rw [bI_f h]; exact ⟨fun e => absurd e (by decide), fun e => absurd e h⟩
theorem le64 (a b : Int32) : a.toInt64 ≤ b.toInt64 ↔ a ≤ b := by
  rw [Int64.le_iff_toInt_le, Int32.toInt_toInt64, Int32.toInt_toInt64, Int32.le_iff_toInt_le]
theorem lt64 (a b : Int32) : a.toInt64 < b.toInt64 ↔ a < b := by
  rw [Int64.lt_iff_toInt_lt, Int32.toInt_toInt64, Int32.toInt_toInt64, Int32.lt_iff_toInt_lt]
theorem le_nlt {a b : Int32} : a ≤ b ↔ ¬ b < a := by
  rw [Int32.le_iff_toInt_le, Int32.lt_iff_toInt_lt]
  omega
theorem nI_m1 {k : Nat} (hk : k < 2 ^ 31) : (nI k - 1).toInt = (k : Int) - 1 := by
  rw [Int32.toInt_sub, nI_toInt hk]
  show ((k : Int) - 1).bmod (2 ^ 32) = _
  rw [Int.bmod_def]
  split <;> omega
theorem le_m1 {k : Nat} {v : Int32} (hk : k < 2 ^ 31) : v ≤ nI k - 1 ↔ v < nI k := by
  rw [Int32.le_iff_toInt_le, Int32.lt_iff_toInt_lt, nI_m1 hk, nI_toInt hk]
  omega
theorem bI_congr {p q : Prop} [Decidable p] [Decidable q] (h : p ↔ q) : bI p = bI q := by
  by_cases hp : p
  · rw [bI_t hp, bI_t (h.mp hp)]
  · rw [bI_f hp, bI_f (fun z => hp (h.mpr z))]
/-- an index that is good -/
theorem ix {v : Int32} {k : Nat} (hk : k < 2 ^ 31) (h : 0 ≤ v ∧ v < nI k) : ∃ j, j < k ∧ v = nI j := by
  obtain ⟨j, h1, rfl⟩ := nI_of (le_nlt.mp h.1)
  exact ⟨j, (nI_ltI h1 hk).mp h.2, rfl⟩
theorem one_bI : (1 : Int32) = bI True := rfl
theorem c0 {c : Int64} : lg_cmp c c = 0 := (lg_cmp_eq c c).mpr rfl
section At
variable {F : Nat} {xs : Nat → Int32} {L : Nat} {S : St} {n : Nat} {i : Int32}
theorem Cl.wf {S : St} {n p : Nat} {N B : Nat → Int32} (h : Cl S n p N B) : WF N B := h.1
end At
