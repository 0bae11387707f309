/-! numbers, and the model's tokens -/
def nuOk (f : Nat → Int32) (L s lo hi v : Nat) : Prop := isNu f L s v ∧ lo ≤ v ∧ v ≤ hi
section T2
variable {F : Nat} {S : St} {f : Nat → Int32} {L n s : Nat}
theorem kd_le : kdK f L s ≤ 3 := by
  by_cases z : L ≤ s
  · rw [(tk_0 z).1]; omega
  by_cases a : letB (byK f s)
  · rw [(tk_1 (by omega) a).1]; omega
  by_cases b : digB (byK f s)
  · rw [(tk_2 (by omega) a b).1]; omega
  · rw [(tk_3 (by omega) a b).1]; omega
theorem isNu_u {v w : Nat} (h : isNu f L s v) (g : isNu f L s w) : v = w := (nI_eq (by have := h.2.1; omega) (by have := g.2.1; omega)).mp (h.2.2.1.symm.trans g.2.2.1)
theorem e_takeNu (hx : FxF S) (hi : Inp S f L) (hn : 197 ≤ n) (h5 : sr S 500 n = some 20) (t : TokC f L S n s) {lo hh : Nat} (hh9 : hh ≤ 99999) (hF : 10000 ≤ F) : (∀ v, nuOk f L s lo hh v → ∃ T, f_X6_takeNumber F S n (nI lo) (nI hh) = some (nI v, T) ∧ PaF n S T ∧ TokC f L T n (nxK f L s)) ∧ ((∀ v, ¬ nuOk f L s lo hh v) → lo ≤ 99999 → f_X6_takeNumber F S n (nI lo) (nI hh) = some (-1, flC S n s (if kdK f L s = 2 then 2 else 1))) := by
  obtain ⟨t0, t1, t2, t3, t4, -, -, t7, -⟩ := id t
  have kb := kd_le (f := f) (L := L) (s := s)
  have k2 : nI (kdK f L s) = (2 : Int32) ↔ kdK f L s = 2 := nI_eq (b := 2) (by omega) (by omega)
  constructor
  · rintro v ⟨⟨h1, h2, h3, -⟩, h5', h6⟩
    obtain ⟨T, p1, p2, p3⟩ := e_nextT (F := F) hx hi hn h5 t hF
    refine ⟨T, ?_, p2, p3⟩
    unfold f_X6_takeNumber
    rw [t4, if_neg (fun y => y (k2.mpr h1)), t7 h1, h3, if_neg (nI_nlt (by omega) (by omega)), if_pos (nI_le (by omega) (by omega)), lt_eq, p1, ob_some]
  · intro no hlo
    have fl : f_X6_takeNumber_L24 F S n = some (-1, flC S n s (if kdK f L s = 2 then 2 else 1)) := by
      unfold f_X6_takeNumber_L24 f_X6_takeNumber_L38
      rw [t4]
      by_cases z : kdK f L s = 2
      · rw [if_neg (fun y => y (k2.mpr z)), if_pos z, e_fail t, ob_some]
        rfl
      · rw [if_pos (fun y => z (k2.mp y)), if_neg z, e_fail t, ob_some]
        rfl
    unfold f_X6_takeNumber
    rw [t4, fl]
    by_cases z : kdK f L s = 2
    rotate_left
    · rw [if_pos (fun y => z (k2.mp y))]
    rw [if_neg (fun y => y (k2.mpr z)), t7 z]
    rcases nu_cases (fun i h => (hi.2.2 i h).2) z with ⟨v, hv⟩ | ⟨-, w, w1, w2, w3, -⟩
    · rw [hv.2.2.1]
      have hv2 := hv.2.1
      by_cases a : v < lo
      · rw [if_pos (nI_lt a (by omega))]
      · rw [if_neg (nI_nlt (by omega) (by omega)), if_neg (nI_ge (by
          rcases Nat.lt_or_ge hh v with y | y
          · exact y
          · exact absurd ⟨hv, by omega, y⟩ (no v)) (by omega))]
    · rw [w3, if_neg (nI_nlt (by omega) (by omega)), if_neg (nI_ge (by omega) (by omega))]
end T2
