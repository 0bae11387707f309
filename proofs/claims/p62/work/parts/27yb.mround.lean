/-! the model's round -/
theorem WB.is {N B : Nat → Int32} (w : WB N B) {q : Nat} (hq : q < 480) : WB (upd N (4772 + 3 * q) 0) B := by
  have b4 := w.n4.2
  have b6 := w.n6.2
  have b7 := w.n7.2
  have b8 := w.n8.2
  have hE : EqX (fun k => k = 4772 + 3 * q) N (upd N (4772 + 3 * q) 0) := fun k _ _ h => upd_n h
  have e : ∀ k, ¬ k = 4772 + 3 * q → upd N (4772 + 3 * q) 0 k = N k := fun k h => upd_n h
  have ek : ∀ k, ¬ k = 4772 + 3 * q → kN (upd N (4772 + 3 * q) 0) k = kN N k := fun k h => by unfold kN; rw [e k h]
  have n9 : isCnt (upd N (4772 + 3 * q) 0) 9 60 := by unfold isCnt; rw [ek 9 (by omega), e 9 (by omega)]; exact w.n9
  refine wb_x hE (fun k z => by omega) n9 w (hE.wU (fun k z => by omega) b4 w.wU) (hE.wH (fun k z => by omega) b6 w.wH) (hE.wR (fun k z => by omega) b7 w.wR) (fun q' hq' => ?_)
  rw [ek 8 (by omega)] at hq'
  obtain ⟨q1, q2, q3, q4, q5⟩ := w.wP q' hq'
  have ed : deN (upd N (4772 + 3 * q) 0) q' = deN N q' := e _ (by omega)
  rw [ed, ek (4771 + 3 * q') (by omega), ek 2 (by omega), ek (4773 + 3 * q') (by omega)]
  refine ⟨hE.cnt (by omega) (by omega) (by omega) q1, q2, ?_, q4.imp id (fun y => ⟨hE.cnt (by omega) (by omega) (by omega) y.1, y.2⟩), q5⟩
  by_cases z : q' = q
  · rw [z]; exact Or.inl (upd_e _ _ _)
  · have ei : isN (upd N (4772 + 3 * q) 0) q' = isN N q' := e _ (by omega)
    rw [ei]; exact q3
section Mr2
variable {F : Nat} {S : St} {B : Nat → Int32} {L : (Nat → Int32) → Int32 → Int32 → Nat → Int32} {th : Int32}
end Mr2
