/-! the law's last loop -/
section Sh
variable {F : Nat} {S : St} {n a many ev m : Nat} {X : XS} {N B : Nat → Int32} {P : PS} {us ab : Nat → Nat}
theorem a_fair (hx : FxF S) (cl : Cl S n 27 N B) {u : Nat} (hu : u < kN N 4) (hF : 1000 ≤ F) : ∃ T, f_X10_fairShare F S 0 (nI u) = some (.inr (shN N u (kN N 8)), T) ∧ G6 S T := by
  obtain ⟨T, t1, t2, t3⟩ := e_gather6 (F := F) hx cl.c0 hF
  have C2 : Cl0 T n 27 N B := cl.c0.agr (Nat.le_refl _) (fun i hi => t2.so (by omega))
  refine ⟨T, ?_, t2⟩
  unfold f_X10_fairShare
  rw [a_needUser hx cl hu, ob_some]
  simp only [lt_eq, sm_r]
  rw [hx.r905_0, ob_some, hx.r910_0, ob_some, t1, ob_some]
  exact e_fair (t2.fx hx) C2 t3 hu hF
theorem RQ.g6 {T : St} (c : RQ S n N B) (g : G6 S T) : RQ T n N B := c.lift (Nat.le_refl _) (fun i hi => g.so (by omega)) (g.2.1 _ _) (g.2.1 _ _) (fun f i _ _ => g.1 f i) (fun i _ => by rw [g.2.2.2.2.2])
theorem suU_le {f : Nat → Nat} {u : Nat} : ∀ x, u < x → f u ≤ suU f x := by
  intro x
  induction x with
  | zero => intro h; omega
  | succ x ih =>
    intro h
    show f u ≤ suU f x + f x
    by_cases z : u = x
    · rw [z]; omega
    · have := ih (by omega); omega
theorem suU_mono {f : Nat → Nat} {x : Nat} : ∀ d, suU f x ≤ suU f (x + d) := by
  intro d
  induction d with
  | zero => exact Nat.le_refl _
  | succ d ih => show _ ≤ suU f (x + d) + f (x + d); omega
theorem wS_mono {w : Nat → Nat} {Q : Nat → Prop} {x : Nat} : ∀ d, wS w Q x ≤ wS w Q (x + d) := by
  intro d
  induction d with
  | zero => exact Nat.le_refl _
  | succ d ih => show _ ≤ wS w Q (x + d) + _; omega
/-- six times what a user owes -/
noncomputable def tU (N : Nat → Int32) (u : Nat) : Nat := wS (qw N) (rdP N u) (kN N 8)
theorem tU_sum (W : WF N B) (h : LN X N B P us ab many ev) (hb : P.2.2 ≤ 100) : suU (tU N) (kN N 4) = 6 * P.2.2 := by
  rw [by_eq W.wb h hb]
  exact su_q (kN N 8) (fun q hq => rdK_b W h hq)
theorem sh_near (W : WF N B) (h : LN X N B P us ab many ev) (hb : P.2.2 ≤ 25) (hm : many ≤ 9) {u : Nat} (hu : u < usX X) : ∃ e : Int, e ≤ 72 ∧ near (shN N u (kN N 8)) (tU N u) e := by
  have k4 := h.1.2.1
  have k7 := h.2.2.1.1
  have w8 : kN N 8 ≤ 4 * kN N 7 := W.2.1.2.2.2.2.2.2.2
  have tb : tU N u ≤ 150 := by
    have := suU_le (f := tU N) (u := u) (kN N 4) (by omega)
    have := tU_sum W h (by omega)
    omega
  have g : ∀ x, x ≤ kN N 8 → ∃ e : Int, e ≤ 2 * x ∧ near (shN N u x) (wS (qw N) (rdP N u) x) e := by
    intro x
    induction x with
    | zero => intro _; exact ⟨0, by omega, near_0⟩
    | succ x ih =>
      intro hx
      obtain ⟨e, e1, e2⟩ := ih (by omega)
      have mo := wS_mono (w := qw N) (Q := rdP N u) (x := x + 1) (kN N 8 - (x + 1))
      rw [show x + 1 + (kN N 8 - (x + 1)) = kN N 8 by omega] at mo
      have mo' : wS (qw N) (rdP N u) (x + 1) ≤ 150 := Nat.le_trans mo tb
      rw [shN_s]
      rw [wS_s] at mo' ⊢
      by_cases z : rdP N u x
      · rw [pif_t z] at mo' ⊢
        rw [pif_t z]
        obtain ⟨s, s1, s2⟩ := h.2.1.1.2 x (by omega)
        have ip := (h.2.1.1.1 s s1 (by omega)).2.2.2.1
        rw [show P.1 s - 1 = x by omega] at ip
        have lb := ptL_b s s1
        have el : lenN N x = nI (lw N x) := (W.wb.wP x (by omega)).1.1
        have l9 : lw N x < 9 := by unfold lw; omega
        have rb := rdK_b W h (q := x) (by omega)
        rw [el]
        have nq := near_q (a := lw N x) (k := rdK N x) l9 rb.1 (by omega)
        have q6 : (6 * lw N x / rdK N x : Nat) = qw N x := rfl
        rw [q6] at nq
        have := near_add e2 nq (by omega) (by omega)
        refine ⟨e + 1 + 1, by omega, ?_⟩
        rw [show ((wS (qw N) (rdP N u) x + qw N x : Nat) : Int) = (wS (qw N) (rdP N u) x : Int) + (qw N x : Int) from Int.natCast_add _ _]
        exact this
      · rw [pif_f z, pif_f z, Nat.add_zero]
        exact ⟨e, by omega, e2⟩
  obtain ⟨e, e1, e2⟩ := g _ (Nat.le_refl _)
  exact ⟨e, by omega, e2⟩
/-- the state of the last loop -/
def LQ (S : St) (n a : Nat) (N B : Nat → Int32) (us ab : Nat → Nat) : Prop := RQ S n N B ∧ si S 1 20 = 0 ∧ 197 ≤ a ∧ a + 3 ≤ n ∧ (ln S (a + 1) = 3 ∧ ln S (a + 2) = 3) ∧ (∀ u, u < 3 → ai S (a + 1) u = nI (us u)) ∧ ∀ u, u < 3 → ai S (a + 2) u = nI (ab u)
theorem l_log (h : LN X N B P us ab many ev) : ∀ x, x ≤ usX X → runN (fun u (a : Int32) => a + usN N u) x 0 0 = nI (suU us x) := by
  intro x
  induction x with
  | zero => intro _; rfl
  | succ x ih =>
    intro hx
    rw [runN_s, Nat.zero_add, ih (by omega), h.2.2.2.2.1 x (by omega), nI_add]
    rfl
theorem l_705 (hX : X.2 ≤ 260) (hF : 100000 ≤ F) (h : LN X N B P us ab many ev) (lb : LB 9 P us ab many ev) : ∀ d u fu S x (e : Int), u + d = usX X → d < fu → LQ S n a N B us ab → e ≤ 80 * u → near x (suU (tU N) u) e →
    ∃ T, f_L_law_L705 F fu S n X 0 (a + 1) (a + 2) (nI P.2.2) x (nI (suU us u)) (nI u) = some (1, T, n) := by
  have ux := usX_b X
  obtain ⟨q1, q2, q3, q4⟩ := lb
  have k4 := h.1.2.1
  intro d
  induction d with
  | zero =>
    intro u fu S x e hu hfu lq he hn
    obtain ⟨fu, rfl⟩ : ∃ q, fu = q + 1 := ⟨fu - 1, by omega⟩
    obtain ⟨rq, s20, -, -, -, -, -⟩ := lq
    have eu : u = usX X := by omega
    have W := rq.2.2.2.1
    have ts := tU_sum W h (by omega)
    rw [k4, ← eu] at ts
    have lo := l_log h (usX X) (Nat.le_refl _)
    rw [← eu] at lo
    refine ⟨S, ?_⟩
    rw [ts] at hn
    have hn' : near x (6 * (P.2.2 : Int)) e := hn
    unfold f_L_law_L705
    rw [e_usersL hX, ob_some]
    simp only [lt_eq]
    rw [if_pos (nI_le (by omega) (by omega)), a_logical rq.2.1 rq.2.2.2 (by omega), ob_some]
    simp only []
    rw [k4, ← eu, lo, if_neg (fun y => y rfl)]
    exact near_end hn' (by omega) (by omega) S n
  | succ d ih =>
    intro u fu S x e hu hfu lq he hn
    obtain ⟨fu, rfl⟩ : ∃ q, fu = q + 1 := ⟨fu - 1, by omega⟩
    obtain ⟨rq, s20, a1, a2, ⟨l1, l2⟩, v1, v2⟩ := lq
    have hu4 : u < kN N 4 := by omega
    have wb := rq.2.2.2.1.wb
    have hus := (q3 u (by omega)).1
    -- the word is fed
    obtain ⟨T1, e1, f1, i1⟩ := e_feed (F := F) (m := 0) (x := 15) (l := cs 15) (cs_asc (by omega)) (by decide) (by omega) rq.2.1 (Tx.cst (by omega)) s20
    have rq1 := rq.fed f1
    have u1 := a_usage (F := F) rq1.2.1 rq1.2.2.2 hu4 (by omega)
    obtain ⟨T2, e2, s2, so2, sr2, ln2⟩ := a_matches (F := F) (f := chL (cs 15)) (K := 2) rq1.2.1 rq1.2.2.2 i1 (by omega) (by omega) (fun k hk => by
      rcases (by omega : k = 0 ∨ k = 1) with rfl | rfl
      · rw [abW.1]; unfold letB; decide
      · rw [abW.2]; unfold letB; decide) hu4 (by omega)
    have rq2 : RQ T2 n N B := rq1.lift (Nat.le_refl _) (fun i hi => so2 i (by omega)) ((so2 0 (by omega)).1 _) ((so2 0 (by omega)).1 _) (fun f i _ _ => by rw [sr2]) (fun i _ => by rw [ln2])
    obtain ⟨T3, e3, g3⟩ := a_common (F := F) rq2.2.1 rq2.2.2.2 hu4 hu4 (by omega)
    have rq3 := rq2.g6 g3
    obtain ⟨T4, e4, g4⟩ := a_fair (F := F) rq3.2.1 rq3.2.2.2 hu4 (by omega)
    have rq4 := rq3.g6 g4
    have rows1 : ∀ k, 197 ≤ k → SameO S T1 k := fun k hk => f1.so (by omega) (by omega)
    have rows2 : ∀ k, 197 ≤ k → SameO S T2 k := fun k hk => (rows1 k hk).tr (so2 k (by omega))
    have rows3 : ∀ k, 197 ≤ k → SameO S T3 k := fun k hk => (rows2 k hk).tr (g3.so (by omega))
    have rows : ∀ k, 197 ≤ k → SameO S T4 k := fun k hk => (rows3 k hk).tr (g4.so (by omega))
    have s4 : si T4 1 20 = 0 := by rw [g4.2.1, g3.2.1]; exact s2
    have av1 : ai T1 (a + 1) u = nI (us u) := by rw [(rows1 _ (by omega)).row]; exact v1 u (by omega)
    have av2 : ai T2 (a + 2) u = nI (ab u) := by rw [(rows2 _ (by omega)).row]; exact v2 u (by omega)
    have av3 : ai T3 (a + 1) u = nI (us u) := by rw [(rows3 _ (by omega)).row]; exact v1 u (by omega)
    have av4 : ai T4 (a + 1) u = nI (us u) := by rw [(rows _ (by omega)).row]; exact v1 u (by omega)
    have ln1 : ln T1 (a + 1) = 3 := by rw [(rows1 _ (by omega)).2.2.2.2.2]; exact l1
    have ln2' : ln T2 (a + 2) = 3 := by rw [(rows2 _ (by omega)).2.2.2.2.2]; exact l2
    have ln3 : ln T3 (a + 1) = 3 := by rw [(rows3 _ (by omega)).2.2.2.2.2]; exact l1
    have ln4 : ln T4 (a + 1) = 3 := by rw [(rows _ (by omega)).2.2.2.2.2]; exact l1
    have ln42 : ln T4 (a + 2) = 3 := by rw [(rows _ (by omega)).2.2.2.2.2]; exact l2
    obtain ⟨c, c1, c2⟩ := cm_le (u := u) wb h (by omega) (by omega)
    obtain ⟨e', n1, n2⟩ := sh_near rq.2.2.2.1 h (by omega) (by omega) (u := u) (by omega)
    have ts := tU_sum rq.2.2.2.1 h (by omega)
    have tm := suU_mono (f := tU N) (x := u + 1) (kN N 4 - (u + 1))
    rw [show u + 1 + (kN N 4 - (u + 1)) = kN N 4 by omega] at tm
    have tm' : suU (tU N) u + tU N u ≤ 150 := by
      have : suU (tU N) (u + 1) ≤ 150 := by omega
      exact this
    have nn := near_add hn n2 (by omega) (by omega)
    obtain ⟨T, t⟩ := ih (u + 1) fu T4 (FP.dadd x (shN N u (kN N 8))) (e + e' + 1) (by omega) (by omega) ⟨rq4, s4, a1, a2, ⟨ln4, ln42⟩, fun k hk => by rw [(rows _ (by omega)).row]; exact v1 k hk, fun k hk => by rw [(rows _ (by omega)).row]; exact v2 k hk⟩ (by omega) nn
    refine ⟨T, ?_⟩
    rw [← t]
    conv => lhs; unfold f_L_law_L705
    rw [e_usersL hX, ob_some]
    simp only [lt_eq]
    rw [if_neg (nI_ge (by omega) (by omega)), e1, ob_some, u1, ob_some]
    simp only [sm_r]
    rw [ln1, cki_nI (by omega) (by omega), nI_clamp (by omega), av1, h.2.2.2.2.1 u (by omega), if_neg (fun y => y rfl), e2, ob_some]
    simp only [sm_r]
    rw [ln2', cki_nI (by omega) (by omega), av2, ab_run wb h (by omega), if_neg (fun y => y rfl), e3, ob_some]
    simp only [sm_r]
    rw [ln3, cki_nI (by omega) (by omega), av3, c1, if_pos (nI_le c2 (by omega)), e4, ob_some]
    simp only [sm_r]
    rw [near_ckn nn, ln4, cki_nI (by omega) (by omega), av4, nI_add, nI_1]
    rfl
end Sh
