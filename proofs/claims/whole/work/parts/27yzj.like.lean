/-! which stored part lies at a place, and whether there is room: the model -/
section Ml2
variable {F : Nat} {S : St} {f : Nat → Int32} {L : Nat} {B : Nat → Int32}
theorem m_pbAt (hx : FxF S) {q k : Nat} (h : 200 * q + k < 96000) : f_X11_partByteAt F S 197 (nI q) (nI k) = some (ai S 200 (200 * q + k), S) := by
  unfold f_X11_partByteAt
  rw [hx.r1003_197, ob_some, hx.l200, show (200 : Int32) = nI 200 from rfl, nI_mul, nI_add, cki_nI h (by omega), nI_clamp (by omega)]
theorem m_isStored2 (hx : FxF S) (h8 : isCnt (ai S 198) 8 480) {q : Nat} (hq : q < kN (ai S 198) 8) : f_X11_isStored F S 197 (nI q) = some (bI (isN (ai S 198) q = 1), S) := by
  have b8 := h8.2
  unfold f_X11_isStored
  rw [hx.r1001_197, ob_some, hx.l198, show (8 : Int32) = nI 8 from rfl, cki_nI (by omega) (by omega), nI_clamp (by omega), h8.1, e_in0 F S _ (by omega), ob_some]
  simp only [lt_eq, eq_bI]
  rw [if_pos (show 0 ≤ nI q ∧ nI q < nI (kN (ai S 198) 8) from ⟨nI_pos' (by omega), nI_lt hq (by omega)⟩), m_is hx (by omega), ob_some]
  by_cases e : isN (ai S 198) q = 1
  · rw [if_neg (fun z => z e), bI_t e]
  · rw [if_pos e, bI_f e]
theorem m_storedLike (hx : FxF S) (h8 : isCnt (ai S 198) 8 480) (hln : ∀ q, q < kN (ai S 198) 8 → isCnt (ai S 198) (4771 + 3 * q) 200) (m : MCut S f L) (hL : L ≤ 1200) (hf : ∀ i, i < L → ai S 201 i = f i) {j : Nat} (hj : j < kC f L) (hF : 10000 ≤ F) : f_X11_storedLike F S 197 (nI j) = some (nbI (ai S 198) (ai S 200) f L j, S) := by
  obtain ⟨q1, q2, -, -⟩ := cC_lt (f := f) (L := L) hj
  have q5 := cC_le (f := f) (L := L) hj
  have nl := nb_le f L
  have kl : kC f L ≤ 1201 := by unfold kC; omega
  have lj : cC f L j + lC f L j ≤ L := by unfold lC; omega
  have b8 := h8.2
  obtain ⟨N, hN⟩ : ∃ N, N = ai S 198 := ⟨_, rfl⟩
  rw [← hN] at h8 hln b8 ⊢
  have loop : ∀ d q fu, q + d = kN N 8 → d < fu → (∀ x, x < q → ¬ lkP N (ai S 200) f L j x) → f_X11_storedLike_L2 F fu S 197 (nI j) (nI q) = some (nbI N (ai S 200) f L j, S) := by
    intro d
    induction d with
    | zero =>
      intro q fu hq hfu no
      obtain ⟨fu, rfl⟩ : ∃ f', fu = f' + 1 := ⟨fu - 1, by omega⟩
      unfold f_X11_storedLike_L2
      rw [hx.r1001_197, ob_some, hx.l198, show (8 : Int32) = nI 8 from rfl, cki_nI (by omega) (by omega), nI_clamp (by omega), ← hN, h8.1, if_pos (nI_le (by omega) (by omega))]
      unfold nbI nbC
      rw [fnd_no (fun x hx => no x (by omega)), if_neg (by omega)]
    | succ d ih =>
      intro q fu hq hfu no
      obtain ⟨fu, rfl⟩ : ∃ f', fu = f' + 1 := ⟨fu - 1, by omega⟩
      have hq8 : q < kN N 8 := by omega
      have p1 := hln q hq8
      have p12 := p1.2
      have le : lenN N q = nI (kN N (4771 + 3 * q)) := p1.1
      have next : ¬ lkP N (ai S 200) f L j q → f_X11_storedLike_L2 F fu S 197 (nI j) (nI q + 1) = some (nbI N (ai S 200) f L j, S) := by
        intro z
        rw [nI_1]
        exact ih (q + 1) fu (by omega) (by omega) (fun x hx => by
          by_cases e : x = q
          · rw [e]; exact z
          · exact no x (by omega))
      have isd : f_X11_isStored F S 197 (nI q) = some (bI (isN N q = 1), S) := by
        have := m_isStored2 (F := F) hx (by rw [← hN]; exact h8) (q := q) (by rw [← hN]; exact hq8)
        rw [← hN] at this
        exact this
      have lnq : f_X11_partValue F S 197 (nI q) 0 = some (lenN N q, S) := by
        have := m_len (F := F) hx (q := q) (by omega)
        rw [← hN] at this
        exact this
      unfold f_X11_storedLike_L2
      rw [hx.r1001_197, ob_some, hx.l198, show (8 : Int32) = nI 8 from rfl, cki_nI (by omega) (by omega), nI_clamp (by omega), ← hN, h8.1, if_neg (nI_ge (by omega) (by omega)), isd, ob_some]
      simp only [lt_eq, eq_bI]
      unfold f_X11_storedLike_L39 f_X11_storedLike_L40
      -- byte by byte
      have bytes : ∀ d k fu2 (b : Prop), k + d = lC f L j → d < fu2 → (b ↔ isN N q = 1 ∧ kN N (4771 + 3 * q) = lC f L j ∧ ∀ x, x < k → ai S 200 (200 * q + x) = f (cC f L j + x)) → f_X11_storedLike_L44 F (fun a0 a1 a2 a3 => f_X11_storedLike_L2 F fu a0 a1 a2 a3) fu2 S 197 (nI j) (nI q) (pI b) (nI k) = some (nbI N (ai S 200) f L j, S) := by
        have fin : ∀ (b : Prop), (b ↔ lkP N (ai S 200) f L j q) → f_X11_storedLike_L94 F (fun a0 a1 a2 a3 => f_X11_storedLike_L2 F fu a0 a1 a2 a3) S 197 (nI j) (nI q) (pI b) = some (nbI N (ai S 200) f L j, S) := by
          intro b hb
          unfold f_X11_storedLike_L94
          by_cases z : b
          · rw [if_neg (show ¬ pI b = 0 from fun y => (pI_0.mp y) z)]
            unfold nbI nbC
            rw [fnd_eq hq8 (hb.mp z) no, if_pos hq8]
          · rw [if_pos (pI_0.mpr z), lt_eq]
            exact next (fun y => z (hb.mpr y))
        intro d
        induction d with
        | zero =>
          intro k fu2 b hk hfu2 hb
          obtain ⟨fu2, rfl⟩ : ∃ f', fu2 = f' + 1 := ⟨fu2 - 1, by omega⟩
          have ek : k = lC f L j := by omega
          subst ek
          unfold f_X11_storedLike_L44
          rw [m_lengthIn hx m hL hj, ob_some]
          simp only [lt_eq]
          rw [if_pos (nI_le (Nat.le_refl _) (by omega))]
          exact fin b hb
        | succ d ihb =>
          intro k fu2 b hk hfu2 hb
          obtain ⟨fu2, rfl⟩ : ∃ f', fu2 = f' + 1 := ⟨fu2 - 1, by omega⟩
          unfold f_X11_storedLike_L44
          rw [m_lengthIn hx m hL hj, ob_some]
          simp only [lt_eq]
          rw [if_neg (nI_ge (by omega) (by omega))]
          by_cases z : b
          rotate_left
          · rw [if_pos (pI_0.mpr z)]
            exact fin b ⟨fun y => absurd y z, fun y => absurd (hb.mpr ⟨y.1, y.2.1, fun x hx => y.2.2 x (by omega)⟩) z⟩
          obtain ⟨z1, z2, z3⟩ := hb.mp z
          rw [if_neg (show ¬ pI b = 0 from fun y => (pI_0.mp y) z), m_pbAt hx (by omega), ob_some]
          simp only [lt_eq]
          rw [hx.r1006_197, ob_some, hx.r1017_197, ob_some, hx.l203, cki_nI (by omega) (by omega), nI_clamp (by omega), m.2 j (by omega), nI_add, hx.l201, cki_nI (by omega) (by omega), nI_clamp (by omega), hf _ (by omega)]
          unfold f_X11_storedLike_L87
          by_cases y : ai S 200 (200 * q + k) = f (cC f L j + k)
          · rw [if_neg (fun w => w y), lt_eq, nI_1]
            have := ihb (k + 1) fu2 True (by omega) (by omega) ⟨fun _ => ⟨z1, z2, fun x hx => by
              by_cases e : x = k
              · rw [e]; exact y
              · exact z3 x (by omega)⟩, fun _ => True.intro⟩
            rw [pI_t True.intro] at this
            exact this
          · rw [if_pos y, lt_eq, nI_1]
            have := ihb (k + 1) fu2 False (by omega) (by omega) ⟨fun w => w.elim, fun w => y (w.2.2 k (by omega))⟩
            rw [pI_f (fun w => w)] at this
            exact this
      by_cases z : isN N q = 1
      rotate_left
      · rw [if_neg z]
        have := bytes (lC f L j) 0 F False (by omega) (by omega) ⟨fun w => w.elim, fun w => z w.1⟩
        rw [pI_f (fun w => w)] at this
        exact this
      rw [if_pos z, lnq, ob_some]
      simp only [lt_eq]
      rw [m_lengthIn hx m hL hj, ob_some, le]
      simp only [lt_eq]
      by_cases z2 : kN N (4771 + 3 * q) = lC f L j
      · rw [if_neg (fun w => w (by rw [z2]))]
        have := bytes (lC f L j) 0 F True (by omega) (by omega) ⟨fun _ => ⟨z, z2, fun x hx => by omega⟩, fun _ => True.intro⟩
        rw [pI_t True.intro] at this
        exact this
      · rw [if_pos (fun w => z2 ((nI_eq (by omega) (by omega)).mp w))]
        have := bytes (lC f L j) 0 F False (by omega) (by omega) ⟨fun w => w.elim, fun w => z2 w.2.1⟩
        rw [pI_f (fun w => w)] at this
        exact this
  unfold f_X11_storedLike
  exact loop (kN N 8) 0 F (by omega) (by omega) (fun x hx => by omega)
/-- the bytes of the store with the new parts -/
noncomputable def bwN (N B f : Nat → Int32) (L x : Nat) : Int32 := runN (fun j a => pif (fsC f L j ∧ ¬ nbC N B f L j < kN N 8) (a + nI (lC f L j)) a) x 0 (stoN N)
theorem bwN_s {N B f : Nat → Int32} {L x : Nat} : bwN N B f L (x + 1) = pif (fsC f L x ∧ ¬ nbC N B f L x < kN N 8) (bwN N B f L x + nI (lC f L x)) (bwN N B f L x) := by
  unfold bwN
  rw [runN_s, Nat.zero_add]
theorem nbI_n1 {N B f : Nat → Int32} {L j : Nat} (b8 : kN N 8 ≤ 480) : nbI N B f L j = -1 ↔ ¬ nbC N B f L j < kN N 8 := by
  unfold nbI
  by_cases z : nbC N B f L j < kN N 8
  · rw [if_pos z]
    exact ⟨fun y => absurd y (nI_nm1 (by omega)), fun y => absurd z y⟩
  · rw [if_neg z]
    exact ⟨fun _ => z, fun _ => rfl⟩
theorem m_hasRoom (hx : FxF S) (w : WB (ai S 198) B) (m : MCut S f L) (hL : L ≤ 1200) (hf : ∀ i, i < L → ai S 201 i = f i) (hF : 10000 ≤ F) : f_X11_hasRoom F S 197 = some (if 8000 < bwN (ai S 198) (ai S 200) f L (kC f L) then 0 else 1, S) := by
  have nl := nb_le f L
  have kl : kC f L ≤ 1201 := by unfold kC; omega
  have b8 := w.n8.2
  have loop : ∀ d j fu, j + d = kC f L → d < fu → f_X11_hasRoom_L7 F fu S 197 (bwN (ai S 198) (ai S 200) f L j) (nI j) = some (if 8000 < bwN (ai S 198) (ai S 200) f L (kC f L) then 0 else 1, S) := by
    intro d
    induction d with
    | zero =>
      intro j fu hj hfu
      obtain ⟨fu, rfl⟩ : ∃ f', fu = f' + 1 := ⟨fu - 1, by omega⟩
      have ej : j = kC f L := by omega
      subst ej
      unfold f_X11_hasRoom_L7
      rw [m.1, if_pos (nI_le (Nat.le_refl _) (by omega))]
      split <;> rfl
    | succ d ih =>
      intro j fu hj hfu
      obtain ⟨fu, rfl⟩ : ∃ f', fu = f' + 1 := ⟨fu - 1, by omega⟩
      have hjk : j < kC f L := by omega
      have ih' := ih (j + 1) fu (by omega) (by omega)
      rw [bwN_s] at ih'
      -- the earlier places
      have inner : ∀ d i fu2 (b : Prop), i + d = j → d < fu2 → (b ↔ ¬ nbC (ai S 198) (ai S 200) f L j < kN (ai S 198) 8 ∧ ∀ x, x < i → ¬ smC f L x j) → f_X11_hasRoom_L33 F (fun a0 a1 a2 a3 => f_X11_hasRoom_L7 F fu a0 a1 a2 a3) fu2 S 197 (bwN (ai S 198) (ai S 200) f L j) (nI j) (pI b) (nI i) = some (if 8000 < bwN (ai S 198) (ai S 200) f L (kC f L) then 0 else 1, S) := by
        have fin : ∀ (b : Prop), (b ↔ ¬ nbC (ai S 198) (ai S 200) f L j < kN (ai S 198) 8 ∧ fsC f L j) → f_X11_hasRoom_L65 F (fun a0 a1 a2 a3 => f_X11_hasRoom_L7 F fu a0 a1 a2 a3) S 197 (bwN (ai S 198) (ai S 200) f L j) (nI j) (pI b) = some (if 8000 < bwN (ai S 198) (ai S 200) f L (kC f L) then 0 else 1, S) := by
          intro b hb
          unfold f_X11_hasRoom_L65 f_X11_hasRoom_L79
          by_cases z : b
          · rw [if_neg (show ¬ pI b = 0 from fun y => (pI_0.mp y) z), m_lengthIn hx m hL hjk, ob_some]
            simp only [lt_eq]
            rw [nI_1]
            rw [pif_t ⟨(hb.mp z).2, (hb.mp z).1⟩] at ih'
            exact ih'
          · rw [if_pos (pI_0.mpr z), lt_eq, lt_eq, Int32.add_zero, nI_1]
            rw [pif_f (fun y => z (hb.mpr ⟨y.2, y.1⟩))] at ih'
            exact ih'
        intro d
        induction d with
        | zero =>
          intro i fu2 b hi hfu2 hb
          obtain ⟨fu2, rfl⟩ : ∃ f', fu2 = f' + 1 := ⟨fu2 - 1, by omega⟩
          have ei : i = j := by omega
          subst ei
          unfold f_X11_hasRoom_L33
          rw [if_pos (nI_le (Nat.le_refl _) (by omega))]
          exact fin b hb
        | succ d ihb =>
          intro i fu2 b hi hfu2 hb
          obtain ⟨fu2, rfl⟩ : ∃ f', fu2 = f' + 1 := ⟨fu2 - 1, by omega⟩
          unfold f_X11_hasRoom_L33
          rw [if_neg (nI_ge (by omega) (by omega))]
          by_cases z : b
          rotate_left
          · rw [if_pos (pI_0.mpr z)]
            exact fin b ⟨fun y => absurd y z, fun y => absurd (hb.mpr ⟨y.1, fun x hx => y.2 x (by omega)⟩) z⟩
          obtain ⟨z1, z2⟩ := hb.mp z
          rw [if_neg (show ¬ pI b = 0 from fun y => (pI_0.mp y) z), m_areSame hx m hL hf hjk (by omega : i < kC f L) hF, ob_some]
          simp only [lt_eq]
          unfold f_X11_hasRoom_L58
          by_cases y : smC f L j i
          · rw [pI_t y, if_pos (show ¬ (1 : Int32) = 0 by decide), lt_eq, nI_1]
            have := ihb (i + 1) fu2 False (by omega) (by omega) ⟨fun w => w.elim, fun w => w.2 i (by omega) (smC_sy y)⟩
            rw [pI_f (fun w => w)] at this
            exact this
          · rw [pI_f y, if_neg (fun w => w rfl), lt_eq, nI_1]
            have := ihb (i + 1) fu2 True (by omega) (by omega) ⟨fun _ => ⟨z1, fun x hx => by
              by_cases e : x = i
              · rw [e]; exact fun w => y (smC_sy w)
              · exact z2 x (by omega)⟩, fun _ => True.intro⟩
            rw [pI_t True.intro] at this
            exact this
      unfold f_X11_hasRoom_L7 f_X11_hasRoom_L29
      rw [m.1, if_neg (nI_ge (by omega) (by omega)), m_storedLike hx w.n8 (fun q hq => (w.wP q hq).1) m hL hf hjk hF, ob_some]
      simp only [lt_eq]
      by_cases z : nbC (ai S 198) (ai S 200) f L j < kN (ai S 198) 8
      · rw [if_pos (fun y => ((nbI_n1 b8).mp y) z)]
        have := inner j 0 F False (by omega) (by omega) ⟨fun w => w.elim, fun w => w.1 z⟩
        rw [pI_f (fun w => w)] at this
        exact this
      · rw [if_neg (fun y => y ((nbI_n1 b8).mpr z))]
        have := inner j 0 F True (by omega) (by omega) ⟨fun _ => ⟨z, fun x hx => by omega⟩, fun _ => True.intro⟩
        rw [pI_t True.intro] at this
        exact this
  unfold f_X11_hasRoom
  rw [m_stored hx w (by omega), ob_some]
  simp only [lt_eq]
  exact loop (kC f L) 0 F (by omega) (by omega)
/-- the size of the content -/
def szC (f : Nat → Int32) (L x : Nat) : Nat := runN (fun j a => a + lC f L j) x 0 0
theorem szC_s {f : Nat → Int32} {L x : Nat} : szC f L (x + 1) = szC f L x + lC f L x := by
  unfold szC
  rw [runN_s, Nat.zero_add]
theorem m_sizeIn (hx : FxF S) (m : MCut S f L) (hL : L ≤ 1200) (hF : 10000 ≤ F) : f_X11_sizeIn F S 197 = some (nI (szC f L (kC f L)), S) := by
  have nl := nb_le f L
  have kl : kC f L ≤ 1201 := by unfold kC; omega
  have loop : ∀ d j fu, j + d = kC f L → d < fu → f_X11_sizeIn_L4 F fu S 197 (nI (szC f L j)) (nI j) = some (nI (szC f L (kC f L)), S) := by
    intro d
    induction d with
    | zero =>
      intro j fu hj hfu
      obtain ⟨fu, rfl⟩ : ∃ f', fu = f' + 1 := ⟨fu - 1, by omega⟩
      have ej : j = kC f L := by omega
      subst ej
      unfold f_X11_sizeIn_L4
      rw [m.1, if_pos (nI_le (Nat.le_refl _) (by omega))]
    | succ d ih =>
      intro j fu hj hfu
      obtain ⟨fu, rfl⟩ : ∃ f', fu = f' + 1 := ⟨fu - 1, by omega⟩
      have ih' := ih (j + 1) fu (by omega) (by omega)
      unfold f_X11_sizeIn_L4
      rw [m.1, if_neg (nI_ge (by omega) (by omega)), m_lengthIn hx m hL (by omega), ob_some]
      simp only [lt_eq]
      rw [nI_add, nI_1, ← szC_s]
      exact ih'
  unfold f_X11_sizeIn
  exact loop (kC f L) 0 F (by omega) (by omega)
end Ml2
