/-! a message is stored: what the numbers say afterwards -/
theorem ps_st {X : XS} {m : Nat} {a : PS} {i s : Nat} (h : ¬ (psN X m a i).1 s = 0) : ∀ d, (psN X m a (i + d)).1 s = (psN X m a i).1 s := by
  intro d
  induction d with
  | zero => rfl
  | succ d ih =>
    rw [← Nat.add_assoc, ps_s]
    unfold psS
    by_cases z : (psN X m a (i + d)).1 (soX X m (i + d)) = 0
    · rw [if_pos z]
      show updN _ _ _ _ = _
      rw [updN_n (fun e => by rw [← e] at z; omega)]
      exact ih
    · rw [if_neg z]; exact ih
theorem ps_new {X : XS} {m : Nat} {a : PS} (i : Nat) : ¬ (psN X m a (i + 1)).1 (soX X m i) = 0 := by
  rw [ps_s]
  unfold psS
  by_cases z : (psN X m a i).1 (soX X m i) = 0
  · rw [if_pos z]
    show ¬ updN _ _ _ _ = 0
    rw [updN_e]; omega
  · rw [if_neg z]; exact z
theorem ps_at {X : XS} {m i : Nat} {a : PS} (hi : i < paX X m) : (psN X m a (paX X m)).1 (soX X m i) = (psN X m a (i + 1)).1 (soX X m i) := by
  have := ps_st (ps_new (X := X) (m := m) (a := a) i) (paX X m - (i + 1))
  rw [show i + 1 + (paX X m - (i + 1)) = paX X m by omega] at this
  exact this
section Sd
variable {X : XS} {N B : Nat → Int32} {P : PS} {us ab : Nat → Nat} {many ev m : Nat} {rd : Nat → Prop} {cl : Nat → Int32}
/-- the new net -/
noncomputable def nwX (X : XS) (m many : Nat) (N B : Nat → Int32) (rd : Nat → Prop) (cl : Nat → Int32) : Nat → Int32 := lgN (nwN many 0 (chL (mtL X m)) (mtL X m).length N B rd cl) 1 (nI many)
noncomputable def nwY (X : XS) (m many : Nat) (N B : Nat → Int32) : Nat → Int32 := (ptN many (chL (mtL X m)) (mtL X m).length N B (paX X m)).2
/-- what the new message's rows say -/
def NM (X : XS) (m many : Nat) (P : PS) (rd : Nat → Prop) (cl : Nat → Int32) (N' : Nat → Int32) : Prop :=
  manyN N' many = paX X m ∧ szN N' many = siX X m ∧ (∀ i, i < paX X m → N' (334 + 7 * many + i) = nI ((psN X m P (i + 1)).1 (soX X m i) - 1)) ∧ (∀ u, u < 10 → stN N' many u = pif (rd u) 0 (-1) ∧ clN N' many u = cl u ∧ enN N' many u = 0)
theorem nw_all (h : LN X N B P us ab many ev) (W : WF N B) (hm : many < 120) (he : ev < 60) (hrd : ∃ u, u < usX X ∧ rd u) :
    LN X (nwX X m many N B rd cl) (nwY X m many N B) (psN X m P (paX X m)) (fun u => pif (rd u) (us u + siX X m) (us u)) (fun u => pif (rd u ∧ abX X m) (ab u + 1) (ab u)) (many + 1) (ev + 1) ∧ NM X m many P rd cl (nwX X m many N B rd cl) := by
  obtain ⟨⟨a1, a2, a3, a4⟩, ⟨b1, b2, b3⟩, ⟨c1, c2⟩, dd, ff, gg⟩ := id h
  have w := W.wp
  have wb := W.wb
  have h8 : kN N 8 ≤ 4 * many := by rw [← c1]; exact W.2.1.2.2.2.2.2.2.2
  have b8 := wb.n8.2
  have ux := usX_b X
  have pb := paX_b X m
  have hg := mt_gd (X := X) (m := m)
  have hk := mt_k (X := X) (m := m)
  obtain ⟨I1, I2, I3, I4, I5⟩ := si_all (X := X) (m := m) (a := P) w hm h8 b1 b2 b3 (paX X m) (Nat.le_refl _)
  obtain ⟨w1, w2, w3, -⟩ := ptN_w (B := B) w hm hg h8 (paX X m) (by omega)
  have w8 := w1.1.2
  obtain ⟨kl, kp⟩ := ptN_k (B := B) w hm hg h8 (paX X m) (by omega)
  -- the two steps
  obtain ⟨H, hH⟩ : ∃ H, H = nwN many 0 (chL (mtL X m)) (mtL X m).length N B rd cl := ⟨_, rfl⟩
  have lo : ∀ k, k < 331 → ¬ k = 7 → ¬ k = 8 → ¬ k = 9 → H k = N k := fun k x y z t => by rw [hH]; exact nw_lo w hm hg h8 x y z t
  have old : ∀ k, 331 ≤ k → k < 4771 → ¬ (331 + 7 * many ≤ k ∧ k < 338 + 7 * many) → (k < 1171 + 30 * many ∨ 1201 + 30 * many ≤ k) → H k = N k := fun k x y z t => by rw [hH]; exact nw_old w hm hg h8 x y z t
  have xx : ∀ k, ¬ k = 7 → ¬ (331 + 7 * many ≤ k ∧ k ≤ 333 + 7 * many) → (k < 1171 + 30 * many ∨ 1201 + 30 * many ≤ k) → H k = (ptN many (chL (mtL X m)) (mtL X m).length N B (paX X m)).1 k := fun k x y z => by
    have := nw_X (sn := 0) (f := chL (mtL X m)) (L := (mtL X m).length) (N := N) (B := B) (rd := rd) (cl := cl) hm x y z
    rw [hk] at this
    rw [hH]; exact this
  have r7 : H 7 = nI (many + 1) := by rw [hH]; exact hy_7
  have rm : H (333 + 7 * many) = nI (paX X m) := by
    have : nwN many 0 (chL (mtL X m)) (mtL X m).length N B rd cl (333 + 7 * many) = nI (kC (chL (mtL X m)) (mtL X m).length) := hy_m
    rw [hk] at this
    rw [hH]; exact this
  have rr : ∀ u, u < 10 → H (1171 + 3 * (10 * many + u)) = pif (rd u) 0 (-1) ∧ H (1172 + 3 * (10 * many + u)) = cl u ∧ H (1173 + 3 * (10 * many + u)) = N 2 := fun u hu => by rw [hH]; exact hy_r hm hu
  have lg : ∀ k, k < 6211 → ¬ k = 9 → nwX X m many N B rd cl k = H k := fun k x y => by
    show lgN (nwN many 0 (chL (mtL X m)) (mtL X m).length N B rd cl) 1 (nI many) k = _
    rw [lgN_lo x y, hH]
  have e9 : H 9 = nI ev := by rw [xx 9 (by omega) (by omega) (by omega), I4 9 (by omega) (by omega) (by omega)]; exact c2
  have lg9 : nwX X m many N B rd cl 9 = nI (ev + 1) := by
    show lgN (nwN many 0 (chL (mtL X m)) (mtL X m).length N B rd cl) 1 (nI many) 9 = _
    rw [← hH]
    have k9 : kN H 9 = ev := by unfold kN; rw [e9, nI_clamp (by omega)]
    unfold lgN
    rw [if_pos (by omega), if_pos rfl, k9]
  generalize nwX X m many N B rd cl = Z at *
  clear hH
  -- rows
  have zk : ∀ k, k < 6211 → ¬ k = 9 → kN Z k = kN H k := fun k x y => by unfold kN; rw [lg k x y]
  have zlo : ∀ k, k < 331 → ¬ k = 7 → ¬ k = 8 → ¬ k = 9 → Z k = N k := fun k x y z t => (lg k (by omega) t).trans (lo k x y z t)
  have k8 : kN Z 8 = kN (ptN many (chL (mtL X m)) (mtL X m).length N B (paX X m)).1 8 := by unfold kN; rw [lg 8 (by omega) (by omega), xx 8 (by omega) (by omega) (by omega)]
  have e8 : Z 8 = (ptN many (chL (mtL X m)) (mtL X m).length N B (paX X m)).1 8 := by rw [lg 8 (by omega) (by omega), xx 8 (by omega) (by omega) (by omega)]
  have hi : ∀ k, 4771 ≤ k → k < 6211 → Z k = (ptN many (chL (mtL X m)) (mtL X m).length N B (paX X m)).1 k := fun k x y => by rw [lg k y (by omega), xx k (by omega) (by omega) (by omega)]
  have pt : PTb Z (nwY X m many N B) (psN X m P (paX X m)).1 := I1.c w8 e8 hi (fun _ => rfl)
  have k7 : kN Z 7 = many + 1 := by unfold kN; rw [lg 7 (by omega) (by omega), r7, nI_clamp (by omega)]
  have stO : ∀ x u, x < many → u < 10 → stN Z x u = stN N x u := fun x u hx hu => (lg _ (by omega) (by omega)).trans (old _ (by omega) (by omega) (by omega) (by omega))
  have stM : ∀ u, u < 10 → stN Z many u = pif (rd u) 0 (-1) := fun u hu => (lg _ (by omega) (by omega)).trans (rr u hu).1
  have mmO : ∀ x, x < many → manyN Z x = manyN N x := fun x hx => by unfold manyN kN; rw [lg _ (by omega) (by omega), old _ (by omega) (by omega) (by omega) (by omega)]
  have ppO : ∀ x i, x < many → i < 4 → partN Z x i = partN N x i := fun x i hx hi => by unfold partN kN; rw [lg _ (by omega) (by omega), old _ (by omega) (by omega) (by omega) (by omega)]
  have mmM : manyN Z many = paX X m := by unfold manyN kN; rw [lg _ (by omega) (by omega), rm, nI_clamp (by omega)]
  have eP : ∀ i, i < paX X m → Z (334 + 7 * many + i) = nI (pjN many (chL (mtL X m)) (mtL X m).length N B i) := fun i hi => by rw [lg _ (by omega) (by omega), xx _ (by omega) (by omega) (by omega)]; exact kp i hi
  have pj : ∀ i, i < paX X m → pjN many (chL (mtL X m)) (mtL X m).length N B i + 1 = (psN X m P (paX X m)).1 (soX X m i) := fun i hi => by rw [ps_at hi]; exact I5 i hi
  have pjl : ∀ i, i < paX X m → pjN many (chL (mtL X m)) (mtL X m).length N B i < kN Z 8 ∧ IsP Z (nwY X m many N B) (pjN many (chL (mtL X m)) (mtL X m).length N B i) (soX X m i) := fun i hi => by
    have := pt.1 (soX X m i) (soX_b X m i) (by rw [← pj i hi]; omega)
    rw [show (psN X m P (paX X m)).1 (soX X m i) - 1 = pjN many (chL (mtL X m)) (mtL X m).length N B i by rw [← pj i hi]; omega] at this
    exact this
  have ppM : ∀ i, i < paX X m → partN Z many i = pjN many (chL (mtL X m)) (mtL X m).length N B i := fun i hi => by
    have := (pjl i hi).1
    unfold partN kN
    rw [eP i hi, nI_clamp (by omega)]
  have klO : ∀ q, q < kN N 8 → kN Z (4771 + 3 * q) = kN N (4771 + 3 * q) := fun q hq => by unfold kN; rw [hi _ (by omega) (by omega), (kl q hq).1]
  have m4 : ∀ x, x < many → manyN N x ≤ 4 := fun x hx => (wb.wM x (by omega)).2.2.2.1.2
  have p8 : ∀ x i, x < many → i < manyN N x → partN N x i < kN N 8 := fun x i hx hi => ((wb.wM x (by omega)).2.2.2.2.2 i hi).2
  have szO : ∀ x, x < many → szN Z x = szN N x := fun x hx => by
    unfold szN
    rw [mmO x hx]
    have := m4 x hx
    exact runN_e (fun i a hi => by rw [ppO x i hx (by omega), klO _ (p8 x i hx hi)])
  have szM : szN Z many = siX X m := by
    have g : ∀ x, x ≤ paX X m → runN (fun i a => a + kN Z (4771 + 3 * partN Z many i)) x 0 0 = szP X m x := by
      intro x
      induction x with
      | zero => intro _; rfl
      | succ x ih =>
        intro hx
        rw [runN_s, Nat.zero_add, ih (by omega), ppM x (by omega), (pjl x (by omega)).2.2.2.1, sz_s]
    unfold szN
    rw [mmM]
    exact g _ (Nat.le_refl _)
  have abO : ∀ x, x < many → (abM Z (psN X m P (paX X m)).1 x ↔ abM N P.1 x) := fun x hx => by
    have := m4 x hx
    unfold abM
    rw [mmO x hx]
    constructor
    · rintro ⟨i, hi, s, s1, s2, s3⟩
      rw [ppO x i hx (by omega)] at s2
      obtain ⟨t, t1, t2⟩ := b1.2 _ (p8 x i hx hi)
      have t3 : (psN X m P (paX X m)).1 t = P.1 t := ps_mono (a := P) (by omega) _
      have : s = t := pt.un s1 t1 (by omega) (by omega)
      exact ⟨i, hi, s, s1, by rw [this]; exact t2, s3⟩
    · rintro ⟨i, hi, s, s1, s2, s3⟩
      refine ⟨i, hi, s, s1, ?_, s3⟩
      rw [ppO x i hx (by omega), ← s2]
      exact ps_mono (a := P) (by omega) _
  have abMm : abM Z (psN X m P (paX X m)).1 many ↔ abX X m := by
    unfold abM abX
    rw [mmM]
    constructor
    · rintro ⟨i, hi, s, s1, s2, s3⟩
      rw [ppM i hi, pj i hi] at s2
      have : s = soX X m i := pt.un s1 (soX_b X m i) s2 (by rw [s2, ← pj i hi]; omega)
      exact ⟨i, hi, by rw [← this]; exact s3⟩
    · rintro ⟨i, hi, s3⟩
      exact ⟨i, hi, soX X m i, soX_b X m i, by rw [ppM i hi, pj i hi], s3⟩
  refine ⟨⟨⟨?_, ?_, fun u hu => ?_, ?_⟩, ⟨pt, ?_, ?_⟩, ⟨k7, lg9⟩, fun x hx => ?_, fun u hu => ?_, fun u hu => ?_⟩, mmM, szM, fun i hi => ?_, fun u hu => ⟨stM u hu, ?_, ?_⟩⟩
  · unfold kN; rw [zlo 3 (by omega) (by omega) (by omega) (by omega)]; exact a1
  · unfold kN; rw [zlo 4 (by omega) (by omega) (by omega) (by omega)]; exact a2
  · rw [zlo (83 + 8 * u) (by omega) (by omega) (by omega) (by omega), zlo (84 + 8 * u) (by omega) (by omega) (by omega) (by omega)]
    exact a3 u hu
  · rw [zlo 2 (by omega) (by omega) (by omega) (by omega)]; exact a4
  · rw [k8]; exact I2
  · rw [sto_c w8 e8 hi]; exact I3
  · by_cases z : x = many
    · rw [z]
      obtain ⟨u, u1, u2⟩ := hrd
      refine ⟨fun u hu => ?_, u, u1, by rw [stM u (by omega), pif_t u2]⟩
      rw [stM u hu]
      by_cases y : rd u
      · rw [pif_t y]; exact Or.inl rfl
      · rw [pif_f y]; exact Or.inr rfl
    · obtain ⟨d1, u, d2, d3⟩ := dd x (by omega)
      exact ⟨fun u hu => by rw [stO x u (by omega) hu]; exact d1 u hu, u, d2, by rw [stO x u (by omega) (by omega)]; exact d3⟩
  · show runN _ (kN Z 7) 0 0 = _
    rw [k7, us_s]
    have e : runN (fun m (a : Int32) => if stN Z m u = 0 then a + nI (szN Z m) else a) many 0 0 = nI (us u) := by
      rw [← ff u hu]
      show _ = runN _ (kN N 7) 0 0
      rw [c1]
      exact runN_e (fun x a hx => by rw [stO x u hx (by omega), szO x hx])
    rw [e, stM u (by omega), szM]
    show _ = nI (pif (rd u) (us u + siX X m) (us u))
    by_cases y : rd u
    · rw [pif_t y, if_pos rfl, pif_t y, nI_add]
    · rw [pif_f y, if_neg (by decide), pif_f y]
  · rw [ab_s]
    have e : abN Z (psN X m P (paX X m)).1 u many = nI (ab u) := by
      rw [← gg u hu]
      unfold abN
      exact runN_e (fun x a hx => by
        rw [stO x u hx (by omega)]
        by_cases z : abM N P.1 x
        · rw [pif_t z, pif_t ((abO x hx).mpr z)]
        · rw [pif_f z, pif_f (fun y => z ((abO x hx).mp y))])
    rw [e, stM u (by omega)]
    show _ = nI (pif (rd u ∧ abX X m) (ab u + 1) (ab u))
    by_cases y : rd u
    · rw [pif_t y, if_neg (fun t => t rfl)]
      by_cases z : abX X m
      · rw [pif_t (abMm.mpr z), pif_t ⟨y, z⟩, nI_1]
      · rw [pif_f (fun t => z (abMm.mp t)), pif_f (fun t => z t.2)]
    · rw [pif_f y, if_pos (by decide), pif_f (fun t => y t.1)]
  · rw [eP i hi, ← ps_at hi, ← pj i hi, Nat.add_sub_cancel]
  · show Z (1172 + 3 * (10 * many + u)) = _
    rw [lg _ (by omega) (by omega)]; exact (rr u hu).2.1
  · show Z (1173 + 3 * (10 * many + u)) = _
    rw [lg _ (by omega) (by omega), (rr u hu).2.2]; exact a4
end Sd
