section Au
variable {F : Nat} {f D : Nat → Int32} {L n r s : Nat} {C M : St} {i : Nat} {v : Int32}
theorem d_wd {o c : Nat} (h : i < o) : wdN (upd D i v) o c = wdN D o c := by
  unfold wdN
  exact runN_e (fun j b _ => by rw [upd_n (by omega)])
theorem d_nm {o c : Nat} (h : i < o) : isName (upd D i v) o c ↔ isName D o c := by
  unfold isName
  exact ⟨fun g => ⟨g.1, fun k hk => by have := g.2 k hk; rw [upd_n (by omega)] at this; exact this⟩, fun g => ⟨g.1, fun k hk => by rw [upd_n (by omega)]; exact g.2 k hk⟩⟩
theorem d_k {k : Nat} (h : ¬ k = i) : kN (upd D i v) k = kN D k := by unfold kN; rw [upd_n h]
theorem d_cnt {k b : Nat} (h : ¬ k = i) : isCnt (upd D i v) k b ↔ isCnt D k b := by unfold isCnt; rw [d_k h, upd_n h]
/-- the rows of a name -/
theorem nm_rows {o K t : Nat} (hK : 1 ≤ K ∧ K ≤ 6) (lets : ∀ k, k < K → letB (f (t + k))) (rows : ∀ x, x < 6 → D (o + x) = if K ≤ x then 0 else f (t + x)) : isName D o K ∧ (∀ i, K ≤ i → i < 6 → D (o + i) = 0) ∧ wdN D o K = lN (wv (fun k => f (t + k)) K) := by
  have e : ∀ x, x < K → D (o + x) = f (t + x) := fun x hx => by rw [rows x (by omega), if_neg (by omega)]
  refine ⟨⟨hK.1, fun k hk => by rw [e k hk]; exact lets k hk⟩, fun i a b => by rw [rows i b, if_pos a], ?_⟩
  rw [wdN_eq (fun k hk => by rw [e k hk]; exact lets k hk)]
  rw [wv_c (g := fun k => f (t + k)) (fun k hk => e k hk)]
end Au
