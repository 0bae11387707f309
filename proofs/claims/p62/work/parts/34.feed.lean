/-! a text is fed to the class -/
def chL (l : List Int32) (k : Nat) : Int32 := l.getD k 0
def chN (l : List Int32) (k : Nat) : Nat := (chL l k).toNatClampNeg
def fV (l : List Int32) (a : Nat) : Nat := ((chN l a * 256 + chN l (a + 1)) * 256 + chN l (a + 2)) * 256 + chN l (a + 3)
theorem chL_0 {l : List Int32} {k : Nat} (h : l.length ≤ k) : chL l k = 0 := by
  unfold chL
  rw [List.getD_eq_getElem?_getD, List.getElem?_eq_none h]
  rfl
theorem chN_e {l : List Int32} (ha : ascL l) (k : Nat) : chL l k = nI (chN l k) ∧ chN l k ≤ 127 := by
  unfold chN
  by_cases z : k < l.length
  · obtain ⟨j, j1, j2⟩ := asc_ex (ascL_get ha z)
    have e : chL l k = nI j := j2
    rw [e, nI_clamp (by omega)]
    exact ⟨rfl, j1⟩
  · rw [chL_0 (by omega)]
    exact ⟨rfl, by decide⟩
theorem fo_or {a c : Nat} (hc : c < 256) (ha : a < 2 ^ 23) : nI a <<< ((8 : Int32) &&& 31) ||| nI c = nI (a * 256 + c) := by
  have e := Nat.two_pow_add_eq_or_of_lt (i := 8) (b := c) (by omega) a
  rw [pk_shlN (8 &&& 31) 8 (by decide) (by omega), nI_or, Nat.mul_comm, ← e, Nat.mul_comm]
theorem i8_tab : ∀ k, k < 128 → (nI k).toInt8.toInt32 = nI k := by decide +kernel
theorem i8_mod {q : Nat} (h : q % 256 < 128) : (nI q).toInt8.toInt32 = nI (q % 256) := by
  have e : (nI q).toInt8 = (nI (q % 256)).toInt8 := by
    apply Int8.toBitVec_inj.mp
    show ((nI q).toBitVec).signExtend 8 = ((nI (q % 256)).toBitVec).signExtend 8
    rw [BitVec.signExtend_eq_setWidth_of_le _ (by omega), BitVec.signExtend_eq_setWidth_of_le _ (by omega)]
    apply BitVec.eq_of_toNat_eq
    rw [BitVec.toNat_setWidth, BitVec.toNat_setWidth]
    show (BitVec.ofNat 32 q).toNat % 2 ^ 8 = (BitVec.ofNat 32 (q % 256)).toNat % 2 ^ 8
    rw [BitVec.toNat_ofNat, BitVec.toNat_ofNat]
    omega
  rw [e]
  exact i8_tab _ h
section Fd
variable {F : Nat} {S T : St} {m x : Nat} {l : List Int32}
theorem fo_st {fu v k a : Nat} (tx : Tx S m x l) (ha : ascL l) (hl : l.length ≤ 400) (hk : k < 4) (hv : v < 2 ^ 23) (hat : a ≤ 1000) : f_L_four_L4 F (fu + 1) S x (nI a) (nI v) (nI k) = f_L_four_L4 F fu S x (nI a) (nI (v * 256 + chN l (a + k))) (nI (k + 1)) := by
  conv => lhs; unfold f_L_four_L4
  rw [if_neg (show ¬ (4 : Int32) ≤ nI k from nI_ge (b := 4) hk (by omega)), e_len tx, ob_some]
  simp only [lt_eq]
  rw [nI_add]
  obtain ⟨c1, c2⟩ := chN_e ha (a + k)
  by_cases z : l.length ≤ a + k
  · have c0 : chN l (a + k) = 0 := by unfold chN; rw [chL_0 z]; rfl
    rw [if_pos (nI_le z (by omega))]
    unfold f_L_four_L34
    simp only [lt_eq]
    rw [show (0 : Int32) = nI 0 from rfl, fo_or (by omega) hv, show nI k + 1 = nI (k + 1) from nI_add k 1, c0]
  · rw [if_neg (nI_ge (by omega) (by omega)), e_charAt tx ha (by omega) (by omega), ob_some]
    unfold f_L_four_L34
    simp only [lt_eq]
    have c1' : l.getD (a + k) 0 = nI (chN l (a + k)) := c1
    rw [c1', fo_or (by omega) hv, show nI k + 1 = nI (k + 1) from nI_add k 1]
theorem fV_b (ha : ascL l) (a : Nat) : fV l a < 2 ^ 31 := by
  have h0 := (chN_e ha a).2
  have h1 := (chN_e ha (a + 1)).2
  have h2 := (chN_e ha (a + 2)).2
  have h3 := (chN_e ha (a + 3)).2
  unfold fV
  omega
theorem e_four {a : Nat} (tx : Tx S m x l) (ha : ascL l) (hl : l.length ≤ 400) (hat : a ≤ 1000) (hF : 10 ≤ F) : f_L_four F S x (nI a) = some (nI (fV l a), S) := by
  have h0 := (chN_e ha a).2
  have h1 := (chN_e ha (a + 1)).2
  have h2 := (chN_e ha (a + 2)).2
  have h3 := (chN_e ha (a + 3)).2
  obtain ⟨fu, rfl⟩ : ∃ q, F = q + 5 := ⟨F - 5, by omega⟩
  unfold f_L_four
  rw [show f_L_four_L4 (fu + 5) (fu + 5) S x (nI a) 0 0 = f_L_four_L4 (fu + 5) (fu + 4 + 1) S x (nI a) (nI 0) (nI 0) from rfl, fo_st tx ha hl (by omega) (by omega) hat]
  rw [show fu + 4 = fu + 3 + 1 from rfl, fo_st tx ha hl (by omega) (by simp only [Nat.zero_mul, Nat.zero_add, Nat.add_zero, Nat.reduceAdd]; omega) hat]
  rw [show fu + 3 = fu + 2 + 1 from rfl, fo_st tx ha hl (by omega) (by simp only [Nat.zero_mul, Nat.zero_add, Nat.add_zero, Nat.reduceAdd]; omega) hat]
  rw [show fu + 2 = fu + 1 + 1 from rfl, fo_st tx ha hl (by omega) (by simp only [Nat.zero_mul, Nat.zero_add, Nat.add_zero, Nat.reduceAdd]; omega) hat]
  conv => lhs; unfold f_L_four_L4
  rw [if_pos (show (4 : Int32) ≤ nI (0 + 1 + 1 + 1 + 1) by decide)]
  unfold fV
  simp only [Nat.zero_mul, Nat.zero_add, Nat.add_zero]
theorem byt_fV (ha : ascL l) {a t : Nat} (ht : t < 4) : chL l (a + t) = byt (nI (fV l a)) t := by
  have h0 := (chN_e ha a).2
  have h1 := (chN_e ha (a + 1)).2
  have h2 := (chN_e ha (a + 2)).2
  have h3 := (chN_e ha (a + 3)).2
  have hb := fV_b ha a
  rw [(chN_e ha (a + t)).1]
  unfold byt
  have fin : ∀ q : Nat, q % 256 = chN l (a + t) → (nI q).toInt8.toInt32 = nI (chN l (a + t)) := fun q e => by
    have := (chN_e ha (a + t)).2
    rw [i8_mod (by omega), e]
  rcases (by omega : t = 0 ∨ t = 1 ∨ t = 2 ∨ t = 3) with rfl | rfl | rfl | rfl
  · rw [pk_shrN hb (nI (24 - 8 * 0) &&& 31) 24 (by decide), fin _ (by unfold fV; simp only [Nat.add_zero]; omega)]
  · rw [pk_shrN hb (nI (24 - 8 * 1) &&& 31) 16 (by decide), fin _ (by unfold fV; omega)]
  · rw [pk_shrN hb (nI (24 - 8 * 2) &&& 31) 8 (by decide), fin _ (by unfold fV; omega)]
  · rw [pk_shrN hb (nI (24 - 8 * 3) &&& 31) 0 (by decide), fin _ (by unfold fV; omega)]
/-- what feeding changes: the buffer alone -/
def FeC (S T : St) : Prop := (∀ f i, sr T f i = sr S f i) ∧ (∀ f i, ¬ (f = 1 ∧ i = 20) → si T f i = si S f i) ∧ (∀ i, ¬ i = 21 → ai T i = ai S i) ∧ al T = al S ∧ ar T = ar S ∧ ln T = ln S
theorem FeC.rf (S : St) : FeC S S := ⟨fun _ _ => rfl, fun _ _ _ => rfl, fun _ _ => rfl, rfl, rfl, rfl⟩
theorem FeC.tr {U : St} (h : FeC S T) (g : FeC T U) : FeC S U := ⟨fun f i => (g.1 f i).trans (h.1 f i), fun f i a => (g.2.1 f i a).trans (h.2.1 f i a), fun i a => (g.2.2.1 i a).trans (h.2.2.1 i a), g.2.2.2.1.trans h.2.2.2.1, g.2.2.2.2.1.trans h.2.2.2.2.1, g.2.2.2.2.2.trans h.2.2.2.2.2⟩
theorem FeC.so (h : FeC S T) {k : Nat} (a : ¬ k = 20) (b : ¬ k = 21) : SameO S T k := ⟨fun f => h.2.1 f k (fun y => a y.2), fun f => h.1 f k, h.2.2.1 k b, by rw [h.2.2.2.1], by rw [h.2.2.2.2.1], by rw [h.2.2.2.2.2]⟩
theorem FeC.fx (h : FeC S T) (hx : FxF S) : FxF T := hx.agr (fun f i _ _ => h.1 f i) (fun i _ => by rw [h.2.2.2.2.2]) (by rw [h.2.2.2.2.1])
/-- the buffer holds the first k letters -/
def Bu (S : St) (l : List Int32) (k : Nat) : Prop := si S 1 20 = nI k ∧ ∀ j, j < k → ai S 21 j = chL l j
theorem e_app20 {k : Nat} (hx : FxF S) (ha : ascL l) (b : Bu S l k) (hk : k + 20 ≤ 1200) : ∃ T, f_X10_append F S 0 (nI (fV l k)) (nI (fV l (k + 4))) (nI (fV l (k + 8))) (nI (fV l (k + 12))) (nI (fV l (k + 16))) = some (.inr (nI (k + 20)), T) ∧ FeC S T ∧ Bu T l (k + 20) := by
  obtain ⟨g, hg⟩ : ∃ g : Nat → Int32, g = fun j => chL l (k + j) := ⟨_, rfl⟩
  have gg : ∀ c, ∀ t, t < 4 → g (c + t) = byt (nI (fV l (k + c))) t := fun c t ht => by
    rw [hg]
    show chL l (k + (c + t)) = _
    rw [← Nat.add_assoc]
    exact byt_fV ha ht
  have A0 : AppC S S k g 0 := ⟨fun _ _ => rfl, fun _ _ _ => rfl, fun _ _ => rfl, rfl, rfl, rfl, b.1, fun _ _ => rfl, fun j hj => by omega⟩
  obtain ⟨T1, t1, A1⟩ := A0.four (F := F) hx (by omega) (gg 0)
  obtain ⟨T2, t2, A2⟩ := A1.four (F := F) hx (by omega) (gg (0 + 4))
  obtain ⟨T3, t3, A3⟩ := A2.four (F := F) hx (by omega) (gg (0 + 4 + 4))
  obtain ⟨T4, t4, A4⟩ := A3.four (F := F) hx (by omega) (gg (0 + 4 + 4 + 4))
  obtain ⟨T5, t5, A5⟩ := A4.four (F := F) hx (by omega) (gg (0 + 4 + 4 + 4 + 4))
  simp only [Nat.zero_add, Nat.add_zero, Nat.reduceAdd] at t1 t2 t3 t4 t5
  refine ⟨T5, ?_, ⟨A5.1, A5.2.1, A5.2.2.1, A5.2.2.2.1, A5.2.2.2.2.1, A5.2.2.2.2.2.1⟩, A5.2.2.2.2.2.2.1, fun j hj => ?_⟩
  · unfold f_X10_append
    rw [hx.r900_0, ob_some, b.1, show (20 : Int32) = nI 20 from rfl, nI_add, show (1200 : Int32) = nI 1200 from rfl, if_pos (nI_le (by omega) (by omega)), ob_some, t1, ob_some, A1.1, hx.r900_0, ob_some, t2, ob_some, A2.1, hx.r900_0, ob_some, t3, ob_some, A3.1, hx.r900_0, ob_some, t4, ob_some, A4.1, hx.r900_0, ob_some, t5, ob_some, A5.1, hx.r900_0, ob_some, A5.2.2.2.2.2.2.1]
  · by_cases z : j < k
    · rw [A5.2.2.2.2.2.2.2.1 j z]; exact b.2 j z
    · have := A5.2.2.2.2.2.2.2.2 (j - k) (by omega)
      rw [show k + (j - k) = j by omega] at this
      rw [this, hg]
      show chL l (k + (j - k)) = _
      rw [show k + (j - k) = j by omega]
theorem fd_16 {k : Nat} {k4 : St → Nat → Nat → Int32 → Int32 → Option St} (hx : FxF S) (tx : Tx S m x l) (ha : ascL l) (hl : l.length ≤ 400) (b : Bu S l k) (hk : k ≤ 400) (hF : 10 ≤ F) : ∃ T, f_L_feed_L16 F k4 S 0 x (nI k) = k4 T 0 x (nI (k + 20)) (nI (k + 20)) ∧ FeC S T ∧ Bu T l (k + 20) := by
  obtain ⟨T, t1, t2, t3⟩ := e_app20 (F := F) hx ha b (by omega)
  refine ⟨T, ?_, t2, t3⟩
  unfold f_L_feed_L16
  rw [e_four tx ha hl (by omega) hF, ob_some]
  simp only [lt_eq]
  rw [show nI k + 4 = nI (k + 4) from nI_add k 4, show nI k + 8 = nI (k + 8) from nI_add k 8, show nI k + 12 = nI (k + 12) from nI_add k 12, show nI k + 16 = nI (k + 16) from nI_add k 16, show nI k + 20 = nI (k + 20) from nI_add k 20]
  rw [e_four tx ha hl (by omega) hF, ob_some]
  simp only []
  rw [e_four tx ha hl (by omega) hF, ob_some]
  simp only []
  rw [e_four tx ha hl (by omega) hF, ob_some]
  simp only []
  rw [e_four tx ha hl (by omega) hF, ob_some]
  simp only []
  rw [t1, ob_some]
  rfl
theorem Bu.inp (b : Bu S l l.length) (ha : ascL l) (hl : l.length ≤ 400) : Inp S (chL l) l.length := ⟨by omega, b.1, fun i hi => ⟨b.2 i hi, by have := chN_e ha i; rw [this.1]; exact i8_tab _ (by omega)⟩⟩
theorem FeC.tx (h : FeC S T) (tx : Tx S m x l) : Tx T m x l := tx.fr (fun i a _ => h.so (by omega) (by omega))
theorem e_trunc {k : Nat} (hx : FxF S) (b : Bu S l k) (hk : l.length ≤ k) (hk2 : k ≤ 1000) : ∃ T, f_X10_truncate F S 0 (nI l.length) = some (.inr (), T) ∧ FeC S T ∧ Bu T l l.length := by
  unfold f_X10_truncate f_X0_cutTo
  rw [if_neg (nI_pos (by omega)), hx.r900_0, ob_some, b.1, if_pos (nI_le hk (by omega)), ob_some, if_neg (nI_pos (by omega)), b.1]
  by_cases y : l.length < k
  · rw [if_neg (nI_ge y (by omega)), lt_eq, ob_some]
    exact ⟨_, rfl, ⟨fun _ _ => rfl, fun f i a => by rw [si_ui, if_neg a], fun _ _ => rfl, rfl, rfl, rfl⟩, by rw [si_ui, if_pos ⟨rfl, rfl⟩], fun j hj => b.2 j (by omega)⟩
  · rw [if_pos (nI_le (by omega) (by omega)), ob_some]
    exact ⟨S, rfl, FeC.rf S, by rw [b.1, show k = l.length by omega], fun j hj => b.2 j (by omega)⟩
theorem fd_lo (ha : ascL l) (hl : l.length ≤ 400) (hF : 100 ≤ F) : ∀ d k fu S, l.length ≤ k + 20 * d → d < fu → 0 < k → (k < l.length + 20 ∨ k = 20) → FxF S → Tx S m x l → Bu S l k → ∃ T, f_L_feed_L4 F fu S 0 x (nI k) (nI k) = some T ∧ FeC S T ∧ Bu T l l.length := by
  intro d
  induction d with
  | zero =>
    intro k fu S hd hfu h0 hk hx tx b
    obtain ⟨fu, rfl⟩ : ∃ q, fu = q + 1 := ⟨fu - 1, by omega⟩
    have z : ¬ nI k = (0 : Int32) := fun y => by have := (nI_eq (b := 0) (by omega) (by omega)).mp y; omega
    obtain ⟨T, t1, t2, t3⟩ := e_trunc (F := F) hx b (by omega) (by omega)
    have mn : (if nI l.length < nI k then nI l.length else nI k) = nI l.length := by
      by_cases y : l.length < k
      · rw [if_pos (nI_lt y (by omega))]
      · rw [if_neg (nI_nlt (by omega) (by omega)), show l.length = k by omega]
    refine ⟨T, ?_, t2, t3⟩
    unfold f_L_feed_L4
    rw [e_len tx, ob_some]
    simp only [lt_eq]
    rw [if_neg (nI_nlt (by omega) (by omega)), if_pos z, e_len tx, ob_some]
    simp only []
    rw [mn, t1, ob_some]
    rfl
  | succ d ih =>
    intro k fu S hd hfu h0 hk hx tx b
    obtain ⟨fu, rfl⟩ : ∃ q, fu = q + 1 := ⟨fu - 1, by omega⟩
    by_cases y : k < l.length
    rotate_left
    · exact ih k (fu + 1) S (by omega) (by omega) h0 hk hx tx b
    obtain ⟨T, t1, t2, t3⟩ := fd_16 (F := F) (k := k) (k4 := fun a0 a1 a2 a3 a4 => f_L_feed_L4 F fu a0 a1 a2 a3 a4) hx tx ha hl b (by omega) (by omega)
    obtain ⟨U, u1, u2, u3⟩ := ih (k + 20) fu T (by omega) (by omega) (by omega) (Or.inl (by omega)) (t2.fx hx) (t2.tx tx) t3
    refine ⟨U, ?_, t2.tr u2, u3⟩
    unfold f_L_feed_L4
    rw [e_len tx, ob_some]
    simp only [lt_eq]
    rw [if_pos (nI_lt y (by omega)), t1]
    exact u1
theorem e_feed (ha : ascL l) (hl : l.length ≤ 400) (hF : 100 ≤ F) (hx : FxF S) (tx : Tx S m x l) (h0 : si S 1 20 = 0) : ∃ T, f_L_feed F S 0 x = some T ∧ FeC S T ∧ Inp T (chL l) l.length := by
  obtain ⟨fu, hfu⟩ : ∃ q, F = q + 1 := ⟨F - 1, by omega⟩
  have b0 : Bu S l 0 := ⟨h0, fun j hj => by omega⟩
  obtain ⟨T, t1, t2, t3⟩ := fd_16 (F := F) (k := 0) (k4 := fun a0 a1 a2 a3 a4 => f_L_feed_L4 F fu a0 a1 a2 a3 a4) hx tx ha hl b0 (by omega) (by omega)
  obtain ⟨U, u1, u2, u3⟩ := fd_lo (F := F) (m := m) (x := x) ha hl hF 20 20 fu T (by omega) (by omega) (by omega) (Or.inr rfl) (t2.fx hx) (t2.tx tx) t3
  refine ⟨U, ?_, t2.tr u2, u3.inp ha hl⟩
  unfold f_L_feed
  conv => lhs; arg 2; rw [hfu]
  unfold f_L_feed_L4
  rw [e_len tx, ob_some]
  simp only [lt_eq]
  have t1' : f_L_feed_L16 F (fun a0 a1 a2 a3 a4 => f_L_feed_L4 F fu a0 a1 a2 a3 a4) S 0 x 0 = f_L_feed_L4 F fu T 0 x (nI 20) (nI 20) := t1
  by_cases y : (0 : Int32) < nI l.length
  · rw [if_pos y, t1']
    exact u1
  · rw [if_neg y, if_neg (fun z => z True.intro), t1']
    exact u1
end Fd
