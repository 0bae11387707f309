theorem ai_uaiE (S : St) (i k : Nat) (v : Int32) : ai (uai S i k v) i = upd (ai S i) k v := by
  funext z
  rw [ai_uai]
  unfold upd
  by_cases y : z = k
  · rw [if_pos ⟨rfl, y⟩, if_pos y]
  · rw [if_neg (fun q => y q.2), if_neg y]
theorem ai_uaiN {S : St} {i k j : Nat} (v : Int32) (h : ¬ j = i) : ai (uai S i k v) j = ai S j := by
  funext z
  rw [ai_uai, if_neg (fun q => h q.1)]
def lcN (a : Nat → Int32) (u c m : Nat) : Prop := stN a m u = 0 ∧ clN a m u = nI c
def vis (m x u : Nat) : Nat := if u < x then m + 1 else m
def Cn (R a : Nat → Int32) (m x : Nat) : Prop := ∀ u c, u < kN a 4 → c < 8 → R (8 * u + c) = nI (cntP (fun m' => m' < vis m x u ∧ lcN a u c m') (kN a 7))
section Cnt
variable {R a a' : Nat → Int32} {m x c c2 : Nat}
theorem vis_x (m x : Nat) : vis m x x = m := by unfold vis; rw [if_neg (by omega)]
theorem vis_x1 (m x : Nat) : vis m (x + 1) x = m + 1 := by unfold vis; rw [if_pos (by omega)]
theorem vis_n {m x u : Nat} (h : ¬ u = x) : vis m (x + 1) u = vis m x u := by
  unfold vis
  by_cases z : u < x
  · rw [if_pos z, if_pos (by omega)]
  · rw [if_neg z, if_neg (by omega)]
theorem Cn.row (h : Cn R a m (kN a 4)) : Cn R a (m + 1) 0 := by
  intro u c hu hc
  rw [show vis (m + 1) 0 u = vis m (kN a 4) u by unfold vis; rw [if_pos hu, if_neg (by omega)]]
  exact h u c hu hc
theorem Cn.up (h : Cn R a m x) (hm : m < kN a 7) (hx : x < kN a 4) (hc : c < 8) (hl : stN a m x = 0) (hcl : clN a m x = nI c) : Cn (upd R (8 * x + c) (R (8 * x + c) + 1)) a m (x + 1) := by
  intro u d hu hd
  by_cases z : u = x
  · subst z
    by_cases y : d = c
    · subst y
      rw [upd_e, h u d hu hd, nI_1, vis_x1]
      refine congrArg nI (Eq.symm (cntP_del (q := m) hm ⟨by omega, hl, hcl⟩ (fun q => by rw [vis_x] at q; omega) (fun m' _ ne => ?_)))
      rw [vis_x]
      exact ⟨fun q => ⟨by omega, q.2⟩, fun q => ⟨by omega, q.2⟩⟩
    · rw [upd_n (by omega), h u d hu hd]
      refine congrArg nI (cntP_c (fun m' _ => ?_))
      rw [vis_x, vis_x1]
      refine ⟨fun q => ⟨by omega, q.2⟩, fun q => ⟨?_, q.2⟩⟩
      by_cases e : m' = m
      · rw [e] at q
        exact absurd ((nI_eq (by omega) (by omega)).mp (q.2.2.symm.trans hcl)) y
      · omega
  · rw [upd_n (by omega), h u d hu hd, vis_n z]
end Cnt
section Mcl
variable {F : Nat} {S : St} {B : Nat → Int32}
end Mcl
