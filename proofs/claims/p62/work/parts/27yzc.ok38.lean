/-! commonBytes -/
theorem rdP_lt {N B : Nat → Int32} (w : WB N B) {u q : Nat} (h : rdP N u q) : q < kN N 8 := by
  obtain ⟨m, m1, -, i, i1, i2⟩ := h
  rw [← i2]
  exact ((w.wM m m1).2.2.2.2.2 i i1).2
theorem runN_stop {α : Type} {s : Nat → α → α} {a : α} {x : Nat} : ∀ d, (∀ k b, x ≤ k → k < x + d → s k b = b) → runN s (x + d) 0 a = runN s x 0 a := by
  intro d
  induction d with
  | zero => intro _; rfl
  | succ d ih =>
    intro h
    rw [← Nat.add_assoc, runN_s, Nat.zero_add, h (x + d) _ (by omega) (by omega)]
    exact ih (fun k b h1 h2 => h k b h1 (by omega))
section Rd
variable {F : Nat} {S : St} {B : Nat → Int32}
/-- the bytes that two users have in common -/
noncomputable def cmN (N : Nat → Int32) (u v x : Nat) : Int32 := runN (fun q a => pif (rdP N u q ∧ rdP N v q) (a + lenN N q) a) x 0 0
theorem cmN_s {N : Nat → Int32} {u v x : Nat} : cmN N u v (x + 1) = pif (rdP N u x ∧ rdP N v x) (cmN N u v x + lenN N x) (cmN N u v x) := by
  unfold cmN
  rw [runN_s, Nat.zero_add]
end Rd
section Rc
variable {F : Nat} {S : St} {n : Nat} {N B : Nat → Int32}
theorem e_common (hx : FxF S) (C : Cl0 S n 27 N B) (R : RowB N (ai S 196) (fun u q => rdP N u q)) {u v : Nat} (hu : u < kN N 4) (hv : v < kN N 4) (hF : 1000 ≤ F) : f_X10_commonBytes_L26 F F S 0 (nI u) (nI v) 0 0 = some (.inr (cmN N u v (kN N 8)), S) := by
  have w := C.wb
  have b8 := w.n8.2
  have b4 := w.n4.2
  have stop : cmN N u v 480 = cmN N u v (kN N 8) := by
    unfold cmN
    rw [show 480 = kN N 8 + (480 - kN N 8) by omega]
    exact runN_stop _ (fun k b h1 _ => pif_f (fun y => by have := rdP_lt w y.1; omega))
  have loop : ∀ d q fu, q + d = 480 → d < fu → f_X10_commonBytes_L26 F fu S 0 (nI u) (nI v) (cmN N u v q) (nI q) = some (.inr (cmN N u v (kN N 8)), S) := by
    intro d
    induction d with
    | zero =>
      intro q fu hk hfu
      obtain ⟨fu, rfl⟩ : ∃ f', fu = f' + 1 := ⟨fu - 1, by omega⟩
      have : q = 480 := by omega
      subst this
      unfold f_X10_commonBytes_L26
      rw [hx.r910_0, ob_some, hx.l196, if_pos (nI_le (Nat.le_refl _) (by omega)), stop]
    | succ d ih =>
      intro q fu hk hfu
      obtain ⟨fu, rfl⟩ : ∃ f', fu = f' + 1 := ⟨fu - 1, by omega⟩
      have ih' := ih (q + 1) fu (by omega) (by omega)
      obtain ⟨b, b1, b2, b3⟩ := R q (by omega)
      have t1 := (b3 u (by omega)).trans ⟨fun y => y.2, fun y => ⟨hu, y⟩⟩
      have t2 := (b3 v (by omega)).trans ⟨fun y => y.2, fun y => ⟨hv, y⟩⟩
      unfold f_X10_commonBytes_L26
      rw [hx.r910_0, ob_some, hx.l196, if_neg (nI_ge (by omega) (by omega)), ob_some, hx.l196, cki_nI (by omega) (by omega), nI_clamp (by omega), b2, e_hasBit F S b1 (by omega), ob_some]
      simp only [lt_eq, eq_bI]
      unfold f_X10_commonBytes_L82
      by_cases z : rdP N u q
      rotate_left
      · rw [if_neg (fun y => z (t1.mp y)), lt_eq, nI_1]
        rw [cmN_s, pif_f (fun y => z y.1)] at ih'
        exact ih'
      rw [if_pos (t1.mpr z), hx.r910_0, ob_some, hx.l196, cki_nI (by omega) (by omega), b2, e_hasBit F S b1 (by omega), ob_some]
      simp only [lt_eq, eq_bI]
      by_cases z2 : rdP N v q
      · obtain ⟨j, j1, j2, j3, j4, j5, -⟩ := e_bytesOf (F := F) C hx.sp27 (rdP_lt w z)
        have el : lenN N q = nI (kN N (4771 + 3 * q)) := (w.wP q (rdP_lt w z)).1.1
        rw [if_pos (t2.mpr z2), hx.r905_0, ob_some, hx.sp27.r710_0, ob_some, j1, ob_some]
        simp only [lt_eq]
        rw [ob_some, j5, ← el, nI_1]
        rw [cmN_s, pif_t ⟨z, z2⟩] at ih'
        exact ih'
      · rw [if_neg (fun y => z2 (t2.mp y)), nI_1]
        rw [cmN_s, pif_f (fun y => z2 y.2)] at ih'
        exact ih'
  exact loop 480 0 F (by omega) (by omega)
end Rc
section A
variable {F : Nat} {xs : Nat → Int32} {L : Nat} {S : St} {n : Nat} {i : Int32}
end A
