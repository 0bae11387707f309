/-! names are looked up: both sides -/
noncomputable def lkN (D : Nat → Int32) (f : Nat → Int32) (L s : Nat) (a b c many : Nat) : Option Nat := fstN (fun i => nmEq D (a + b * i + c) (fun k => f (s + k)) (enK f L s - s)) many
/-- the kinds of names: where they lie -/
def kdA (p : Nat) : Nat := if p = 0 then 11 else if p = 1 then 83 else if p = 2 then 163 else 205
def kdB (p : Nat) : Nat := if p = 0 then 9 else if p = 1 then 8 else if p = 2 then 7 else 21
def kdO (p : Nat) : Nat := if p = 0 then 3 else if p = 1 then 2 else if p = 2 then 1 else 15
def kdM (p : Nat) : Nat := if p = 0 then 8 else if p = 1 then 10 else 6
/-- counts of a draft -/
def cnD (D : Nat → Int32) : Prop := isCnt D 3 8 ∧ isCnt D 4 10 ∧ isCnt D 5 6 ∧ isCnt D 6 6
noncomputable def lkP4 (D : Nat → Int32) (f : Nat → Int32) (L s p : Nat) : Option Nat := lkN D f L s (kdA p) (kdB p) (kdO p) (kN D (3 + p))
section Lk
variable {F : Nat} {S : St} {f D : Nat → Int32} {L n s r : Nat}
theorem whW_nm (h8 : ∀ i, i < L → (f i).toInt8.toInt32 = f i) (nm : isNm f L s) (t : TokC f L S n s) : sl S 507 n = whW (fun k => f (s + k)) (enK f L s - s) ∧ 1 ≤ enK f L s - s ∧ ∀ k, k < enK f L s - s → letB (f (s + k)) := by
  obtain ⟨l1, l2, l3, l4⟩ := tk_let h8 nm.1
  have lets : ∀ k, k < enK f L s - s → letB (f (s + k)) := fun k h => by
    have := l4 (s + k) (by omega) (by omega)
    rw [← this.2]; exact this.1
  have c6 := nm.2.2
  refine ⟨?_, by omega, lets⟩
  rw [(t.2.2.2.2.2.1 nm.1).1, wEnc_c (h := fun k => f (s + k)) (fun k h => (l4 (s + k) (by omega) (by omega)).2)]
  unfold wEnc whW
  rw [if_pos (by omega), pif_t ⟨lets, by omega⟩]
theorem e_look {q c : Nat} {o : Nat → Nat} (h0 : sr S 400 q = some (q + 1)) (h1 : si S 401 q = nI c) (hl : c ≤ ln S (q + 1)) (hb : ln S (q + 1) < 2 ^ 31) (hc : ∀ i, i < c → ∃ k, k ≤ 6 ∧ isName D (o i) k ∧ (∀ j, k ≤ j → j < 6 → D (o i + j) = 0) ∧ al S (q + 1) i = wdN D (o i) k)
    (h8 : ∀ i, i < L → (f i).toInt8.toInt32 = f i) (nm : isNm f L s) (t : TokC f L S n s) (hF : c < F) : f_X5_numberOf F S q (sl S 507 n) = some (encO (fstN (fun i => nmEq D (o i) (fun k => f (s + k)) (enK f L s - s)) c), S) := by
  obtain ⟨w1, w2, w3⟩ := whW_nm h8 nm t
  rw [e_numberOf h0 h1 hl hb _ hF, w1, find_eq hc w2 w3]
/-- the pool of a kind -/
def kdQ (p : Nat) : Nat := if p = 0 then 1 else if p = 1 then 6 else if p = 2 then 10 else 13
theorem e_lookP {p : Nat} (hp : p < 4) (R : CR S r D) (cn : cnD D) (h8 : ∀ i, i < L → (f i).toInt8.toInt32 = f i) (nm : isNm f L s) (t : TokC f L S n s) (hF : 1000 ≤ F) : f_X5_numberOf F S (r + kdQ p) (sl S 507 n) = some (encO (lkP4 D f L s p), S) := by
  obtain ⟨ru, ⟨-, -, q3, q4, q5, q6⟩, nc, nu, ng, nh⟩ := R
  obtain ⟨c3, c4, c5, c6⟩ := cn
  have b3 := c3.2
  have b4 := c4.2
  have b5 := c5.2
  have b6 := c6.2
  rcases (by omega : p = 0 ∨ p = 1 ∨ p = 2 ∨ p = 3) with rfl | rfl | rfl | rfl
  · exact e_look (q := r + 1) (c := kN D 3) (o := fun i => 11 + 9 * i + 3) ru.r400_1 (q3.trans c3.1) (by rw [show r + 1 + 1 = r + 2 by omega, ru.l2]; exact b3) (by rw [show r + 1 + 1 = r + 2 by omega, ru.l2]; omega) (fun i hi => by
      obtain ⟨-, -, -, k, k1, k2, k3, k4⟩ := nc i hi
      rw [show (11 + 9 * i + 3) = 14 + 9 * i by omega]
      exact ⟨k, k1, k2, k3, k4⟩) h8 nm t (by omega)
  · exact e_look (q := r + 6) (c := kN D 4) (o := fun i => 83 + 8 * i + 2) ru.r400_6 (q4.trans c4.1) (by rw [show r + 6 + 1 = r + 7 by omega, ru.l7]; exact b4) (by rw [show r + 6 + 1 = r + 7 by omega, ru.l7]; omega) (fun i hi => by
      obtain ⟨-, k, k1, k2, k3, k4⟩ := nu i hi
      rw [show (83 + 8 * i + 2) = 85 + 8 * i by omega]
      exact ⟨k, k1, k2, k3, k4⟩) h8 nm t (by omega)
  · exact e_look (q := r + 10) (c := kN D 5) (o := fun i => 163 + 7 * i + 1) ru.r400_10 (q5.trans c5.1) (by rw [show r + 10 + 1 = r + 11 by omega, ru.l11]; exact b5) (by rw [show r + 10 + 1 = r + 11 by omega, ru.l11]; omega) (fun i hi => by
      obtain ⟨-, k, k1, k2, k3, k4⟩ := ng i hi
      rw [show (163 + 7 * i + 1) = 164 + 7 * i by omega]
      exact ⟨k, k1, k2, k3, k4⟩) h8 nm t (by omega)
  · exact e_look (q := r + 13) (c := kN D 6) (o := fun i => 205 + 21 * i + 15) ru.r400_13 (q6.trans c6.1) (by rw [show r + 13 + 1 = r + 14 by omega, ru.l14]; exact b6) (by rw [show r + 13 + 1 = r + 14 by omega, ru.l14]; omega) (fun i hi => by
      obtain ⟨-, -, -, -, k, k1, k2, k3, k4⟩ := nh i hi
      rw [show (205 + 21 * i + 15) = 220 + 21 * i by omega]
      exact ⟨k, k1, k2, k3, k4⟩) h8 nm t (by omega)
end Lk
