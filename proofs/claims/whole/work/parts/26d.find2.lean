/-! find and matches -/
section IW
variable {F : Nat} {S : St}
/-- the model looks whether the input is a word -/
theorem m_isInWord {K : Nat} {f : Nat → Int32} (hx : FxF S) (hK : K ≤ 1200) (h7 : si S 1007 197 = nI K) (hf : ∀ k, k < K → ai S 201 k = f k) (hF : 2000 ≤ F) :
    f_X11_isInputWord F S 197 = some (pI (1 ≤ K ∧ ∀ k, k < K → letB (f k)), ui (ui S 1010 197 0) 1009 197 (nI K)) := by
  unfold f_X11_isInputWord f_X11_isInputWord_L25
  have e7 : si (ui S 1010 197 0) 1007 197 = nI K := by rw [si_ui, if_neg (by decide)]; exact h7
  have hT : FxF (ui (ui S 1010 197 0) 1009 197 (nI K)) := hx.eqv ((Eqv.ui _ (by decide)).tr (Eqv.ui _ (by decide)))
  simp only [lt_eq]
  rw [e7]
  have e9 : si (ui (ui S 1010 197 0) 1009 197 (nI K)) 1009 197 = nI K := rfl
  rw [e9]
  obtain ⟨T, hTT⟩ : ∃ T, T = ui (ui S 1010 197 0) 1009 197 (nI K) := ⟨_, rfl⟩
  have a1 : ai T 201 = ai S 201 := by rw [hTT]; rfl
  rw [← hTT] at hT e9 ⊢
  obtain ⟨F', rfl⟩ : ∃ f', F = f' + 1 := ⟨F - 1, by omega⟩
  have stop : ∀ fu v, f_X11_isInputWord_L28 (F' + 1) (fu + 1) T 197 0 v = some (0, T) := by
    intro fu v
    unfold f_X11_isInputWord_L28
    by_cases z : si T 1009 197 ≤ v
    · rw [if_pos z, ck_t (Or.inl rfl)]
    · rw [if_neg z, if_pos rfl, ck_t (Or.inl rfl)]
  by_cases z : K = 0
  · subst z
    rw [if_pos (show nI 0 ≤ 0 by decide), pI_f (fun y => by have := y.1; omega)]
    exact stop F' 0
  · rw [if_neg (nI_nle (by omega) (by omega))]
    have g : ∀ d k fu, k + d = K → d + 1 < fu → f_X11_isInputWord_L28 (F' + 1) fu T 197 1 (nI k) = some (pI (∀ i, k ≤ i → i < K → letB (f i)), T) := by
      intro d
      induction d with
      | zero =>
        intro k fu hk hfu
        obtain ⟨fu, rfl⟩ : ∃ f', fu = f' + 1 := ⟨fu - 1, by omega⟩
        unfold f_X11_isInputWord_L28
        rw [e9, if_pos (nI_le (by omega) (by omega)), ck_t (Or.inr rfl), pI_t (fun i q1 q2 => by omega)]
      | succ d ih =>
        intro k fu hk hfu
        obtain ⟨fu, rfl⟩ : ∃ f', fu = f' + 1 := ⟨fu - 1, by omega⟩
        conv => lhs; unfold f_X11_isInputWord_L28
        rw [e9, if_neg (nI_ge (by omega) (by omega)), if_neg (by decide), hT.r1006_197, ob_some, hT.l201, cki_nI (by omega) (by omega), nI_clamp (by omega), a1, hf k (by omega), show (97 : Int64) = (97 : Int32).toInt64 from rfl, show (122 : Int64) = (122 : Int32).toInt64 from rfl, e_in, ob_some]
        simp only [lt_eq, nI_1]
        by_cases c : letB (f k)
        · rw [bI_t (show 97 ≤ f k ∧ f k ≤ 122 from c), ih (k + 1) fu (by omega) (by omega), pI_c]
          constructor
          · intro h i q1 q2
            by_cases y : i = k
            · subst y; exact c
            · exact h i (by omega) q2
          · intro h i q1 q2
            exact h i (by omega) q2
        · obtain ⟨fu, rfl⟩ : ∃ f', fu = f' + 1 := ⟨fu - 1, by omega⟩
          rw [bI_f (show ¬ (97 ≤ f k ∧ f k ≤ 122) from c), stop, pI_f (fun h => c (h k (Nat.le_refl _) (by omega)))]
    rw [show (0 : Int32) = nI 0 from rfl, g K 0 (F' + 1) (by omega) (by omega), pI_c]
    exact ⟨fun h => ⟨by omega, fun k hk => h k (Nat.zero_le _) hk⟩, fun h i _ hi => h.2 i hi⟩
end IW
section A
variable {F : Nat} {xs : Nat → Int32} {L : Nat} {S : St} {n : Nat} {i : Int32}
theorem encO_none : encO none = -1 := rfl
/-- the tables of names by kinds -/
theorem kinds (h : Rel S n) {r : Nat} (q1 : sr S 700 27 = some r) (q3 : CR S r (ai S 198)) {k : Nat} (hk : k < 4) : ∃ q c a b d, f_X7_namesOf F S r (nI k) = some (some q, S) ∧ sr S 400 q = some (q + 1) ∧ si S 401 q = nI c ∧ c ≤ 10 ∧ ln S (q + 1) < 2 ^ 31 ∧ c ≤ ln S (q + 1) ∧ (∀ i, i < c → ∃ kk, kk ≤ 6 ∧ isName (ai S 198) (a + b * i + d) kk ∧ (∀ j, kk ≤ j → j < 6 → ai S 198 (a + b * i + d + j) = 0) ∧ al S (q + 1) i = wdN (ai S 198) (a + b * i + d) kk) ∧ (∀ i, i < c → a + b * i + d + 6 ≤ 6391) ∧
    ∀ T, FxF T → sr T 1004 197 = some 198 → ai T 198 = ai S 198 → f_X11_kindNamed F T 197 (nI k) = Option.bind (f_X11_named F T 197 (nI a) (nI b) (nI d) (nI c)) fun z6 => lt z6.1 fun r8 => lt z6.2 fun S7 => some (r8, S7) := by
  have w := h.w
  have b3 := w.n3.2
  have b4 := w.n4.2
  have b5 := w.n5.2
  have b6 := w.n6.2
  rcases (show k = 0 ∨ k = 1 ∨ k = 2 ∨ k = 3 by omega) with rfl | rfl | rfl | rfl
  · refine ⟨r + 1, kN (ai S 198) 3, 11, 9, 3, ?_, q3.1.r400_1, q3.2.1.2.2.1.trans w.n3.1, by omega, by rw [q3.1.l2]; omega, by rw [q3.1.l2]; omega, fun i hi => ?_, fun i hi => by omega, fun T t1 t2 t3 => ?_⟩
    · unfold f_X7_namesOf; rw [if_pos (by decide), q3.1.r602_0]; rfl
    · rw [show 11 + 9 * i + 3 = 14 + 9 * i by omega]; exact (q3.2.2.1 i hi).2.2.2
    · unfold f_X11_kindNamed
      rw [if_neg (by decide), t2, ob_some, t1.l198, t3, show (3 : Int32) = nI 3 from rfl, cki_nI (by omega) (by omega), nI_clamp (by omega), w.n3.1]
      rfl
  · refine ⟨r + 6, kN (ai S 198) 4, 83, 8, 2, ?_, q3.1.r400_6, q3.2.1.2.2.2.1.trans w.n4.1, by omega, by rw [q3.1.l7]; omega, by rw [q3.1.l7]; omega, fun i hi => ?_, fun i hi => by omega, fun T t1 t2 t3 => ?_⟩
    · unfold f_X7_namesOf; rw [if_neg (by decide), if_pos (by decide), q3.1.r606_0]; rfl
    · rw [show 83 + 8 * i + 2 = 85 + 8 * i by omega]; exact (q3.2.2.2.1 i hi).2
    · unfold f_X11_kindNamed
      rw [if_pos (by decide), if_neg (by decide), t2, ob_some, t1.l198, t3, show (4 : Int32) = nI 4 from rfl, cki_nI (by omega) (by omega), nI_clamp (by omega), w.n4.1]
      rfl
  · refine ⟨r + 10, kN (ai S 198) 5, 163, 7, 1, ?_, q3.1.r400_10, q3.2.1.2.2.2.2.1.trans w.n5.1, by omega, by rw [q3.1.l11]; omega, by rw [q3.1.l11]; omega, fun i hi => ?_, fun i hi => by omega, fun T t1 t2 t3 => ?_⟩
    · unfold f_X7_namesOf; rw [if_neg (by decide), if_neg (by decide), if_pos (by decide), q3.1.r609_0]; rfl
    · rw [show 163 + 7 * i + 1 = 164 + 7 * i by omega]; exact (q3.2.2.2.2.1 i hi).2
    · unfold f_X11_kindNamed
      rw [if_pos (by decide), if_pos (by decide), if_neg (by decide), t2, ob_some, t1.l198, t3, show (5 : Int32) = nI 5 from rfl, cki_nI (by omega) (by omega), nI_clamp (by omega), w.n5.1]
      rfl
  · refine ⟨r + 13, kN (ai S 198) 6, 205, 21, 15, ?_, q3.1.r400_13, q3.2.1.2.2.2.2.2.trans w.n6.1, by omega, by rw [q3.1.l14]; omega, by rw [q3.1.l14]; omega, fun i hi => ?_, fun i hi => by omega, fun T t1 t2 t3 => ?_⟩
    · unfold f_X7_namesOf; rw [if_neg (by decide), if_neg (by decide), if_neg (by decide), q3.1.r611_0]; rfl
    · rw [show 205 + 21 * i + 15 = 220 + 21 * i by omega]; exact (q3.2.2.2.2.2 i hi).2.2.2.2
    · unfold f_X11_kindNamed
      rw [if_pos (by decide), if_pos (by decide), if_pos (by decide), t2, ob_some, t1.l198, t3, show (6 : Int32) = nI 6 from rfl, cki_nI (by omega) (by omega), nI_clamp (by omega), w.n6.1]
      rfl
theorem ok_5 (hF : 100000 ≤ F) (h : Rel S n) (hi : ∀ k : Nat, k < 6 → vp_in (i + nI k) L) : Ok (f_law5 F xs L S n 0 197 210 211 i) := by
  have v1 : vp_in (i + 1) L := hi 1 (by omega)
  unfold f_law5 f_L_find
  simp only [cki_t v1]
  generalize xs (Int32.toNatClampNeg (i + 1)) = x
  obtain ⟨K, k1, k2, k3, k4⟩ := h.ci
  have hx := h.fx
  by_cases hc : 0 ≤ x ∧ x < nI 4
  · obtain ⟨k, hk, rfl⟩ := ix (by omega) hc
    obtain ⟨r, q1, q2, q3⟩ := h.ru
    obtain ⟨q, c, a, b, d, n1, n2, n3, n4, n5, n6, n7, n8, n9⟩ := kinds (F := F) h q1 q3 hk
    obtain ⟨T, t1, t2, t3, t4, t5, t6, t7, t8⟩ := cut_eq (F := F) (S := S) (v := 0) k2 k1 (Nat.zero_le _)
    have ww := e_wholeW (F := F) (S := S) (j := 20) (r := 21) (K := K) (f := fun k => ai S 201 k) hx.r0_20 k2 (by rw [hx.l21]; omega) (by rw [hx.l21]; omega) k4 (by omega)
    have nn := e_numberOf (F := F) (S := S) n2 n3 n6 n5 (whW (fun k => ai S 201 k) K) (by omega)
    obtain ⟨v, hv⟩ : ∃ v, v = encO (fstN (fun i => al S (q + 1) i = whW (fun k => ai S 201 k) K) c) := ⟨_, rfl⟩
    rw [← hv] at nn
    have fc : f_X10_find F S 0 (nI k) = some (.inr v, T) := by
      unfold f_X10_find
      rw [e_needKind, ob_some, if_pos hc, lt_eq, sm_r, hx.r905_0, ob_some, q1, ob_some, n1, ob_some]
      simp only [lt_eq, ob_some]
      rw [hx.r900_0, ob_some, ww, ob_some]
      simp only [lt_eq]
      rw [nn, ob_some]
      simp only [lt_eq]
      rw [hx.r900_0, ob_some, show (0 : Int32) = nI 0 from rfl, t1, ob_some]
    obtain ⟨S1, hS1⟩ : ∃ S1, S1 = ual T 210 0 v.toInt64 := ⟨_, rfl⟩
    have hx1 : FxF S1 := by
      rw [hS1]
      exact hx.agr (fun f i _ _ => t2 f i) (fun i _ => by show ln T i = ln S i; rw [t7]) (by show ar T 69 = ar S 69; rw [t6])
    have hx2 : FxF (ui S1 1000 197 0) := fx_thr hx1 0
    have s7 : si (ui S1 1000 197 0) 1007 197 = nI K := by rw [si_ui, if_neg (by decide), hS1, si_ual, t3 _ _ (by decide)]; exact k3
    have a201 : ai (ui S1 1000 197 0) 201 = ai S 201 := by rw [ai_ui, hS1, ai_ual, t4]
    have iw := m_isInWord (F := F) (f := fun k => ai S 201 k) hx2 k1 s7 (fun k _ => by rw [a201]) (by omega)
    obtain ⟨S2, hS2⟩ : ∃ S2, S2 = ui (ui (ui (ui S1 1000 197 0) 1010 197 0) 1009 197 (nI K)) 1007 197 0 := ⟨_, rfl⟩
    have hx3 : FxF S2 := by
      rw [hS2]
      exact hx2.agr (fun _ _ _ _ => rfl) (fun _ _ => rfl) rfl
    have n198 : ai S2 198 = ai S 198 := by rw [hS2]; show ai S1 198 = _; rw [hS1, ai_ual, t4]
    have fm : f_X11_find F S1 197 (nI k) = some (v, S2) := by
      unfold f_X11_find
      rw [show (3 : Int64) = (nI 3).toInt64 from rfl, e_inK F S1 (nI k) 3 (by omega), ob_some]
      simp only [lt_eq]
      rw [e_passes, ob_some]
      simp only [ne_bI, if_pos hc, if_neg (show ¬ ¬ (0 ≤ nI k ∧ nI k < nI (3 + 1)) from fun z => z hc)]
      rw [iw, ob_some]
      simp only [pI_e0]
      rw [← hS2]
      by_cases z : 1 ≤ K ∧ ∀ j, j < K → letB (ai S 201 j)
      · rw [pif_t z]
        rw [n9 S2 hx3 (by rw [hS2]; show sr S1 1004 197 = _; rw [hS1]; show sr T 1004 197 = _; rw [t2]; exact h.mi.2.1) n198]
        rw [m_named hx3 (s := 0) (K := K) (t := 198) (by rw [hS2]; show sr S1 1004 197 = _; rw [hS1]; show sr T 1004 197 = _; rw [t2]; exact h.mi.2.1) hx3.l198 (by rw [hS2]; rfl) (by rw [hS2, Nat.zero_add]; rfl) (by omega) n8 (by omega) (by omega), ob_some]
        simp only [lt_eq]
        rw [hv, find_eq (N := ai S 198) (o := fun i => a + b * i + d) n7 z.1 z.2, n198]
        have e201 : (fun k => ai S2 201 (0 + k)) = fun k => ai S 201 k := by
          funext j
          rw [Nat.zero_add, hS2]
          show ai S1 201 j = _
          rw [hS1, ai_ual, t4]
        rw [e201]
        try rfl
      · rw [pif_f z]
        have e0 : whW (fun k => ai S 201 k) K = 0 := by
          unfold whW
          by_cases y : (∀ j, j < K → letB (ai S 201 j)) ∧ K ≤ 10
          · have : K = 0 := by
              by_cases y0 : K = 0
              · exact y0
              · exact absurd ⟨by omega, y.1⟩ z
            subst this
            rw [pif_t y]
            rfl
          · rw [pif_f y]
        rw [hv, e0, fst_no (fun j hj => by
          obtain ⟨kk, g1, g2, g3, g4⟩ := n7 j hj
          rw [g4]
          exact name_n0 g1 g2)]
        rfl
    have e1 : ∀ f i, ¬ (f = 1 ∧ i = 20) → ¬ (f = 1007 ∧ i = 197) → ¬ wkP f i → si S2 f i = si S f i := fun f i p1 p2 p3 => by
      rw [hS2, si_ui, if_neg p2, si_ui, if_neg (fun z => p3 (by rw [z.1, z.2]; decide)), si_ui, if_neg (fun z => p3 (by rw [z.1, z.2]; decide)), si_ui, if_neg (fun z => p3 (by rw [z.1, z.2]; decide)), hS1, si_ual, t3 f i p1]
    refine endL 0 v S1 S2 ?_ (fm := fun S => f_X11_find F S 197 (nI k)) fm (by rw [hS2]; rfl) (fun _ => by rw [hS2]; show al S1 210 0 = _; rw [hS1, al_ual, if_pos ⟨rfl, rfl⟩]) ?_
    · rw [fc, ob_some]
      simp only [lt_eq, sm_r]
      rw [t7, hx.l210, cki_0 (by omega) (by omega), hS1]
      rfl
    · refine h.inp (fun f i _ => by rw [hS2]; show sr S1 f i = _; rw [hS1]; exact t2 f i) (fun f i p1 p2 p3 => e1 f i p2 p3 p1) (fun i p1 p2 p3 => by rw [hS2]; show ai S1 i = _; rw [hS1, ai_ual, t4]) (fun i p => ?_) (fun i p => by rw [hS2]; show ar S1 i = _; rw [hS1]; show ar T i = _; rw [t6]) (by rw [hS2]; show ln S1 = _; rw [hS1]; exact t7) ⟨0, by omega, ?_, by rw [hS2]; rfl, fun j hj => by omega⟩
      · rw [hS2]
        show al S1 i = _
        rw [hS1]
        funext z
        rw [al_ual, if_neg (fun y => p (by rw [y.1]; decide)), t5]
      · rw [hS2, si_ui, if_neg (by decide), si_ui, if_neg (by decide), si_ui, if_neg (by decide), si_ui, if_neg (by decide), hS1, si_ual]
        exact t8
  · refine endL 1 0 S (ui S 1000 197 1) ?_ (fm := fun S => f_X11_find F S 197 x) ?_ (th0 _ _) (fun z => absurd z (by decide)) (h.eqv (eqv_thr S 1))
    · unfold f_X10_find
      rw [e_needKind, ob_some, if_neg hc]
      rfl
    · show f_X11_find F S 197 x = _
      unfold f_X11_find
      rw [show (3 : Int64) = (nI 3).toInt64 from rfl, e_inK F S x 3 (by omega), ob_some]
      simp only [lt_eq]
      rw [e_passes, ob_some]
      simp only [ne_bI, if_neg hc]
      rw [if_pos (show ¬ (0 ≤ x ∧ x < nI (3 + 1)) from hc)]
theorem e_liveWord {p : Nat} {N B : Nat → Int32} (C : Cl0 S n p N B) (hs : SpF S p) {u c : Nat} {wl : Nat → Int32} (hu : u < kN N 4) (hc : 1 ≤ c) (hc2 : c ≤ 10) (hw : ∀ k, k < c → letB (wl k)) (hF : 1000 ≤ F) : f_X8_liveWithWord F S p (nI u) (lN (wv wl c)) = some (runN (fun m a => if ¬ stN N m u = 0 then a else pif (contB N B m wl c) (a + 1) a) (kN N 7) 0 0, S) := by
  have b7 := C.wb.n7.2
  have q1 := C.s705
  unfold f_X8_liveWithWord
  refine loopR0 (fun fu k a => f_X8_liveWithWord_L6 F fu S p (nI u) (lN (wv wl c)) a (nI k)) (kN N 7) _ (fun a => (a, S)) 0 (by omega) (fun fu a => ?_) (fun fu k a hk => ?_)
  · simp (disch := first | assumption | omega) only [ob_some, lt_eq, sm_l, sm_r, os_s, os_n, cki_nI, cki_0, cki_1, ck_bI, nI_clamp, cl0, cl1, nI_add, nI_mul, nI_1, nI_a0, nI_0a, nI_1a, nI_1m, aL2, La2, mL2, cL2, kL2, aL3, La3, mL3, cL3, kL3, aL4, La4, mL4, cL4, kL4, aL5, La5, mL5, cL5, kL5, aL6, La6, mL6, cL6, kL6, aL7, La7, mL7, cL7, kL7, aL8, La8, mL8, cL8, kL8, aL9, La9, mL9, cL9, kL9, aL10, La10, mL10, cL10, kL10, aL11, La11, mL11, cL11, kL11, aL12, La12, mL12, cL12, kL12, aL13, La13, mL13, cL13, kL13, aL14, La14, mL14, cL14, kL14, aL15, La15, mL15, cL15, kL15, aL16, La16, mL16, cL16, kL16, aL20, La20, mL20, cL20, kL20, aL21, La21, mL21, cL21, kL21, aL24, La24, mL24, cL24, kL24, aL27, La27, mL27, cL27, kL27, aL30, La30, mL30, cL30, kL30, aL31, La31, mL31, cL31, kL31, aL32, La32, mL32, cL32, kL32, aL48, La48, mL48, cL48, kL48, aL60, La60, mL60, cL60, kL60, aL83, La83, mL83, cL83, kL83, aL97, La97, mL97, cL97, kL97, aL99, La99, mL99, cL99, kL99, aL120, La120, mL120, cL120, kL120, aL122, La122, mL122, cL122, kL122, aL124, La124, mL124, cL124, kL124, aL163, La163, mL163, cL163, kL163, aL177, La177, mL177, cL177, kL177, aL200, La200, mL200, cL200, kL200, aL205, La205, mL205, cL205, kL205, aL255, La255, mL255, cL255, kL255, aL331, La331, mL331, cL331, kL331, aL480, La480, mL480, cL480, kL480, aL999, La999, mL999, cL999, kL999, aL1171, La1171, mL1171, cL1171, kL1171, aL1200, La1200, mL1200, cL1200, kL1200, aL2000, La2000, mL2000, cL2000, kL2000, aL4771, La4771, mL4771, cL4771, kL4771, aL6211, La6211, mL6211, cL6211, kL6211, aL6214, La6214, mL6214, cL6214, kL6214, aL6391, La6391, mL6391, cL6391, kL6391, aL8000, La8000, mL8000, cL8000, kL8000, aL9999, La9999, mL9999, cL9999, kL9999, aL20000, La20000, mL20000, cL20000, kL20000, aL96000, La96000, mL96000, cL96000, kL96000, nI_leI, nI_ltI, ne_bI, eq_bI, if_pos, if_neg, f_X8_liveWithWord_L6, q1]
  · simp (disch := first | assumption | omega) only [ob_some, lt_eq, sm_l, sm_r, os_s, os_n, cki_nI, cki_0, cki_1, ck_bI, nI_clamp, cl0, cl1, nI_add, nI_mul, nI_1, nI_a0, nI_0a, nI_1a, nI_1m, aL2, La2, mL2, cL2, kL2, aL3, La3, mL3, cL3, kL3, aL4, La4, mL4, cL4, kL4, aL5, La5, mL5, cL5, kL5, aL6, La6, mL6, cL6, kL6, aL7, La7, mL7, cL7, kL7, aL8, La8, mL8, cL8, kL8, aL9, La9, mL9, cL9, kL9, aL10, La10, mL10, cL10, kL10, aL11, La11, mL11, cL11, kL11, aL12, La12, mL12, cL12, kL12, aL13, La13, mL13, cL13, kL13, aL14, La14, mL14, cL14, kL14, aL15, La15, mL15, cL15, kL15, aL16, La16, mL16, cL16, kL16, aL20, La20, mL20, cL20, kL20, aL21, La21, mL21, cL21, kL21, aL24, La24, mL24, cL24, kL24, aL27, La27, mL27, cL27, kL27, aL30, La30, mL30, cL30, kL30, aL31, La31, mL31, cL31, kL31, aL32, La32, mL32, cL32, kL32, aL48, La48, mL48, cL48, kL48, aL60, La60, mL60, cL60, kL60, aL83, La83, mL83, cL83, kL83, aL97, La97, mL97, cL97, kL97, aL99, La99, mL99, cL99, kL99, aL120, La120, mL120, cL120, kL120, aL122, La122, mL122, cL122, kL122, aL124, La124, mL124, cL124, kL124, aL163, La163, mL163, cL163, kL163, aL177, La177, mL177, cL177, kL177, aL200, La200, mL200, cL200, kL200, aL205, La205, mL205, cL205, kL205, aL255, La255, mL255, cL255, kL255, aL331, La331, mL331, cL331, kL331, aL480, La480, mL480, cL480, kL480, aL999, La999, mL999, cL999, kL999, aL1171, La1171, mL1171, cL1171, kL1171, aL1200, La1200, mL1200, cL1200, kL1200, aL2000, La2000, mL2000, cL2000, kL2000, aL4771, La4771, mL4771, cL4771, kL4771, aL6211, La6211, mL6211, cL6211, kL6211, aL6214, La6214, mL6214, cL6214, kL6214, aL6391, La6391, mL6391, cL6391, kL6391, aL8000, La8000, mL8000, cL8000, kL8000, aL9999, La9999, mL9999, cL9999, kL9999, aL20000, La20000, mL20000, cL20000, kL20000, aL96000, La96000, mL96000, cL96000, kL96000, nI_leI, nI_ltI, ne_bI, eq_bI, f_X8_liveWithWord_L6, f_X8_liveWithWord_L38, q1, e_state C hs hk hu, e_hasWordM C hs hk hc hc2 hw hF, pI_e0]
    rw [if_neg (by omega)]
    by_cases z : stN N k u = 0
    · simp only [if_neg (show ¬ ¬ stN N k u = 0 from fun y => y z)]
      by_cases y : contB N B k wl c
      · rw [pif_t y, pif_t y]
      · rw [pif_f y, pif_f y]
    · simp only [if_pos z]
theorem ok_37 (hF : 100000 ≤ F) (h : Rel S n) (hi : ∀ k : Nat, k < 6 → vp_in (i + nI k) L) : Ok (f_law37 F xs L S n 0 197 210 211 i) := by
  have v1 : vp_in (i + 1) L := hi 1 (by omega)
  unfold f_law37 f_L_matches
  simp only [cki_t v1]
  generalize xs (Int32.toNatClampNeg (i + 1)) = x
  obtain ⟨K, k1, k2, k3, k4⟩ := h.ci
  have hx := h.fx
  have b7 := h.w.n7.2
  have q7 := h.w.n7.1
  have ww := e_wholeW (F := F) (S := S) (j := 20) (r := 21) (K := K) (f := ai S 201) hx.r0_20 k2 (by rw [hx.l21]; omega) (by rw [hx.l21]; omega) k4 (by omega)
  have iw := fun (T : St) (hT : FxF T) (h7 : si T 1007 197 = nI K) (a1 : ai T 201 = ai S 201) => m_isInWord (F := F) (S := T) (K := K) (f := ai S 201) hT k1 h7 (fun k _ => by rw [a1]) (by omega)
  have W0 : ¬ ((1 ≤ K ∧ ∀ k, k < K → letB (ai S 201 k)) ∧ K ≤ 10) → whW (ai S 201) K = 0 := by
    intro z
    unfold whW
    by_cases y : (∀ j, j < K → letB (ai S 201 j)) ∧ K ≤ 10
    · have : K = 0 := by
        by_cases y0 : K = 0
        · exact y0
        · exact absurd ⟨⟨by omega, y.1⟩, y.2⟩ z
      subst this
      rw [pif_t y]
      rfl
    · rw [pif_f y]
  have mm : ∀ T, FxF T → si T 1007 197 = nI K → ai T 201 = ai S 201 → f_X11_isUser F T 197 x = some (bI (0 ≤ x ∧ x < ai S 198 4), T) → f_X11_matches F T 197 x = f_X11_matches_L27 F (ui (ui T 1010 197 0) 1009 197 (nI K)) 197 x (pI ((1 ≤ K ∧ ∀ k, k < K → letB (ai S 201 k)) ∧ K ≤ 10)) (bI (0 ≤ x ∧ x < ai S 198 4)) 197 := by
    intro T hT h7 a1 hu
    have s7 : si (ui (ui T 1010 197 0) 1009 197 (nI K)) 1007 197 = nI K := by rw [si_ui, if_neg (by decide), si_ui, if_neg (by decide)]; exact h7
    unfold f_X11_matches f_X11_matches_L26
    rw [hu, ob_some]
    simp only [lt_eq]
    rw [iw T hT h7 a1, ob_some]
    simp only [pI_e0]
    rw [s7]
    by_cases z : 1 ≤ K ∧ ∀ k, k < K → letB (ai S 201 k)
    · rw [pif_t z]
      by_cases y : K ≤ 10
      · rw [if_neg (show ¬ 10 < nI K from nI_nlt (a := 10) y (by omega)), pI_t ⟨z, y⟩]
      · rw [if_pos (show 10 < nI K from nI_lt (a := 10) (by omega) (by omega)), pI_f (fun q => y q.2)]
    · rw [pif_f z, pI_f (fun q => z q.1)]
  have eT : ∀ T, Eqv T (ui (ui T 1010 197 0) 1009 197 (nI K)) := fun T => (Eqv.ui _ (by decide)).tr (Eqv.ui _ (by decide))
  have us : ∀ S', Rel S' n → ai S' 198 = ai S 198 → f_X11_isUser F S' 197 x = some (bI (0 ≤ x ∧ x < ai S 198 4), S') := fun S' h' e => by rw [e_isUser h', e]
  by_cases hc : 0 ≤ x ∧ x < ai S 198 4
  rotate_left
  · have e2 : Eqv S (ui (ui (ui S 1010 197 0) 1009 197 (nI K)) 1000 197 1) := (eT S).tr (eqv_thr _ 1)
    refine endL 1 0 S (ui (ui (ui S 1010 197 0) 1009 197 (nI K)) 1000 197 1) ?_ (fm := fun S => f_X11_matches F S 197 x) ?_ (th0 _ _) (fun z => absurd z (by decide)) (h.eqv e2)
    · unfold f_X10_matches
      rw [e_needUser h, ob_some, if_neg hc]
      rfl
    · show f_X11_matches F S 197 x = _
      rw [mm S hx k3 rfl (us S h rfl)]
      unfold f_X11_matches_L27
      rcases Classical.em ((1 ≤ K ∧ ∀ k, k < K → letB (ai S 201 k)) ∧ K ≤ 10) with z | z
      · rw [pI_t z, show (1 : Int32) = bI True from rfl, e_passes2, ob_some]
        simp only [lt_eq]
        rw [bI_f (fun z : _ ∧ _ => hc z.1), if_neg (fun z => z rfl), if_pos hc]
        try rfl
      · have ep := e_passes2 F (ui (ui S 1010 197 0) 1009 197 (nI K)) (0 ≤ x ∧ x < ai S 198 4) False
        rw [show bI False = (0 : Int32) from rfl] at ep
        rw [pI_f z, ep, ob_some]
        simp only [lt_eq]
        rw [bI_f (fun z : _ ∧ _ => hc z.1), if_neg (fun z => z rfl), if_pos hc]
        try rfl
  by_cases W : (1 ≤ K ∧ ∀ k, k < K → letB (ai S 201 k)) ∧ K ≤ 10
  rotate_left
  · have e2 : Eqv S (ui (ui (ui S 1010 197 0) 1009 197 (nI K)) 1000 197 2) := (eT S).tr (eqv_thr _ 2)
    refine endL 2 0 S (ui (ui (ui S 1010 197 0) 1009 197 (nI K)) 1000 197 2) ?_ (fm := fun S => f_X11_matches F S 197 x) ?_ (th0 _ _) (fun z => absurd z (by decide)) (h.eqv e2)
    · unfold f_X10_matches
      rw [e_needUser h, ob_some, if_pos hc, lt_eq, sm_r, hx.r900_0, ob_some, ww, ob_some, W0 W]
      simp only [lt_eq, lg_cmp_eq]
      rfl
    · show f_X11_matches F S 197 x = _
      rw [mm S hx k3 rfl (us S h rfl)]
      unfold f_X11_matches_L27
      rw [pI_f W, show (0 : Int32) = bI False from rfl, e_passes2, ob_some]
      simp only [lt_eq]
      rw [bI_f (fun z : _ ∧ _ => z.2), if_neg (fun z => z rfl), if_neg (fun z => z hc), if_pos (fun z => z)]
      try rfl
  · obtain ⟨u, hu, hu2, rfl⟩ := ixU h hc
    obtain ⟨⟨K1, hl⟩, K10⟩ := W
    have wE : whW (ai S 201) K = lN (wv (ai S 201) K) := by unfold whW; rw [pif_t ⟨hl, K10⟩]
    have w0 : ¬ lN (wv (ai S 201) K) = 0 := by
      have bw := wv_b (f := ai S 201) K10 hl
      have g := wv_ge (f := ai S 201) (c := K - 1) (fun k hk => hl k (by omega))
      rw [show K - 1 + 1 = K by omega] at g
      have p : 0 < 27 ^ (K - 1) := Nat.pow_pos (by omega)
      rw [show (0 : Int64) = lN 0 from rfl, lN_inj (by omega) (by omega)]
      omega
    obtain ⟨T, t1, t2, t3, t4, t5, t6, t7, t8⟩ := cut_eq (F := F) (S := S) (v := 0) k2 k1 (Nat.zero_le _)
    have hxT : FxF T := hx.agr (fun f i _ _ => t2 f i) (fun i _ => by rw [t7]) (by rw [t6])
    have CT : Cl0 T n 27 (ai S 198) (ai S 200) := h.c0.agr (Nat.le_refl _) (fun j hj => ⟨fun f => t3 f j (by omega), fun f => t2 f j, by rw [t4], by rw [t5], by rw [t6], by rw [t7]⟩)
    obtain ⟨v, hv⟩ : ∃ v : Int32, v = runN (fun m a => if ¬ stN (ai S 198) m u = 0 then a else pif (contB (ai S 198) (ai S 200) m (ai S 201) K) (a + 1) a) (kN (ai S 198) 7) 0 0 := ⟨_, rfl⟩
    have lw := e_liveWord (F := F) CT hxT.sp27 hu K1 K10 hl (by omega)
    rw [← hv] at lw
    have fc : f_X10_matches F S 0 (nI u) = some (.inr v, T) := by
      unfold f_X10_matches
      rw [e_needUser h, ob_some, if_pos hc, lt_eq, sm_r, hx.r900_0, ob_some, ww, ob_some, wE]
      simp only [lt_eq, lg_cmp_eq]
      rw [if_pos w0, hx.r900_0, ob_some, show (0 : Int32) = nI 0 from rfl, t1, ob_some, t2, hx.r905_0, ob_some, lw, ob_some]
    obtain ⟨S1, hS1⟩ : ∃ S1, S1 = ual T 210 0 v.toInt64 := ⟨_, rfl⟩
    have hx1 : FxF S1 := by rw [hS1]; exact hxT.agr (fun _ _ _ _ => rfl) (fun _ _ => rfl) rfl
    have a1 : ai S1 = ai S := by rw [hS1]; show ai T = _; rw [t4]
    have s7 : si S1 1007 197 = nI K := by rw [hS1, si_ual, t3 _ _ (by decide)]; exact k3
    have us1 : f_X11_isUser F S1 197 (nI u) = some (bI (0 ≤ nI u ∧ nI u < ai S 198 4), S1) := by
      have b4 := h.w.n4.2
      unfold f_X11_isUser
      rw [hx1.r1001_197, ob_some, hx1.l198, show (4 : Int32) = nI 4 from rfl, cki_nI (by omega) (by omega), nI_clamp (by omega), a1, h.w.n4.1, e_in0 F S1 (nI u) (by omega), ob_some]
      simp only [lt_eq]
      rw [ck_t (bI01 _)]
    obtain ⟨S3, hS3⟩ : ∃ S3, S3 = ui (ui (ui (ui S1 1010 197 0) 1009 197 (nI K)) 1000 197 0) 1016 197 (nI K) := ⟨_, rfl⟩
    have e13 : Eqv S1 S3 := by rw [hS3]; exact ((eT S1).tr (eqv_thr _ 0)).tr (Eqv.ui _ (by decide))
    have hx3 : FxF S3 := hx1.eqv e13
    have s16 : si S3 1016 197 = nI K := by rw [hS3]; rfl
    -- the word is laid aside
    have cp : ∀ d k fu T', k + d = K → d < fu → Sc S3 T' → si T' 1016 197 = nI K → (∀ j, j < k → ai T' 202 j = ai S 201 j) → ∃ T4, f_X11_matches_L45 F fu T' 197 (nI u) (nI k) = f_X11_matches_L80 F F (ui T4 1007 197 0) 197 (nI u) 0 0 ∧ Sc S3 T4 ∧ si T4 1016 197 = nI K ∧ ∀ j, j < K → ai T4 202 j = ai S 201 j := by
      intro d
      induction d with
      | zero =>
        intro k fu T' hk hfu c1 c2 c3
        obtain ⟨fu, rfl⟩ : ∃ f', fu = f' + 1 := ⟨fu - 1, by omega⟩
        have : k = K := by omega
        subst this
        refine ⟨T', ?_, c1, c2, c3⟩
        unfold f_X11_matches_L45
        rw [c2, if_pos (nI_le (Nat.le_refl _) (by omega)), lt_eq]
      | succ d ih =>
        intro k fu T' hk hfu c1 c2 c3
        obtain ⟨fu, rfl⟩ : ∃ f', fu = f' + 1 := ⟨fu - 1, by omega⟩
        have hxT' := c1.fx hx3
        have a201 : ai T' 201 k = ai S 201 k := by
          rw [c1.1.2.2.1 201 (by decide), hS3]
          show ai S1 201 k = _
          rw [a1]
        obtain ⟨T4, g1, g2⟩ := ih (k + 1) fu (uai T' 202 k (ai S 201 k)) (by omega) (by omega) (c1.tr (Sc.uai _ (by decide))) c2 (fun j hj => by
          rw [ai_uai]
          by_cases z : j = k
          · subst z; rw [if_pos ⟨rfl, rfl⟩]
          · rw [if_neg (fun y => z y.2)]; exact c3 j (by omega))
        refine ⟨T4, ?_, g2⟩
        rw [← g1]
        conv => lhs; unfold f_X11_matches_L45
        rw [c2, if_neg (nI_ge (by omega) (by omega)), hxT'.r1015_197, ob_some, hxT'.r1006_197, ob_some, hxT'.l201, hxT'.l202, cki_nI (by omega) (by omega), cki_nI (by omega) (by omega), nI_clamp (by omega), a201, lt_eq, lt_eq, nI_1]
    obtain ⟨T4, g1, g2, g3, g4⟩ := cp K 0 F S3 (by omega) (by omega) (Sc.rf S3) s16 (fun j hj => by omega)
    obtain ⟨S2, hS2⟩ : ∃ S2, S2 = ui T4 1007 197 0 := ⟨_, rfl⟩
    have e14 : Eqv S1 T4 := e13.tr g2.1
    have hxT4 : FxF T4 := hx1.eqv e14
    have hx2 : FxF S2 := by rw [hS2]; exact hxT4.agr (fun _ _ _ _ => rfl) (fun _ _ => rfl) rfl
    have n198 : ai S2 198 = ai S 198 := by rw [hS2]; show ai T4 198 = _; rw [e14.net, a1]
    have n200 : ai S2 200 = ai S 200 := by rw [hS2]; show ai T4 200 = _; rw [e14.bytes, a1]
    have s216 : si S2 1016 197 = nI K := by rw [hS2, si_ui, if_neg (by decide)]; exact g3
    have fm : f_X11_matches F S1 197 (nI u) = some (v, S2) := by
      rw [mm S1 hx1 s7 (by rw [a1]) us1, pI_t ⟨⟨K1, hl⟩, K10⟩]
      unfold f_X11_matches_L27
      rw [show (1 : Int32) = bI True from rfl, e_passes2, ob_some]
      simp only [lt_eq]
      rw [bI_t ⟨hc, trivial⟩, if_pos (by decide), if_neg (fun z => z hc), if_neg (fun z => z trivial)]
      have s71 : si (ui (ui (ui S1 1010 197 0) 1009 197 (nI K)) 1000 197 0) 1007 197 = nI K := by rw [si_ui, if_neg (by decide), si_ui, if_neg (by decide), si_ui, if_neg (by decide)]; exact s7
      rw [s71, ← hS3]
      rw [show (0 : Int32) = nI 0 from rfl, g1, ← hS2, hv]
      refine loopR0 (fun fu k a => f_X11_matches_L80 F fu S2 197 (nI u) a (nI k)) (kN (ai S 198) 7) _ (fun a => (a, S2)) 0 (by omega) (fun fu a => ?_) (fun fu k a hk => ?_)
      · simp (disch := first | assumption | omega) only [ob_some, lt_eq, sm_l, sm_r, os_s, os_n, cki_nI, cki_0, cki_1, ck_bI, nI_clamp, cl0, cl1, nI_add, nI_mul, nI_1, nI_a0, nI_0a, nI_1a, nI_1m, aL2, La2, mL2, cL2, kL2, aL3, La3, mL3, cL3, kL3, aL4, La4, mL4, cL4, kL4, aL5, La5, mL5, cL5, kL5, aL6, La6, mL6, cL6, kL6, aL7, La7, mL7, cL7, kL7, aL8, La8, mL8, cL8, kL8, aL9, La9, mL9, cL9, kL9, aL10, La10, mL10, cL10, kL10, aL11, La11, mL11, cL11, kL11, aL12, La12, mL12, cL12, kL12, aL13, La13, mL13, cL13, kL13, aL14, La14, mL14, cL14, kL14, aL15, La15, mL15, cL15, kL15, aL16, La16, mL16, cL16, kL16, aL20, La20, mL20, cL20, kL20, aL21, La21, mL21, cL21, kL21, aL24, La24, mL24, cL24, kL24, aL27, La27, mL27, cL27, kL27, aL30, La30, mL30, cL30, kL30, aL31, La31, mL31, cL31, kL31, aL32, La32, mL32, cL32, kL32, aL48, La48, mL48, cL48, kL48, aL60, La60, mL60, cL60, kL60, aL83, La83, mL83, cL83, kL83, aL97, La97, mL97, cL97, kL97, aL99, La99, mL99, cL99, kL99, aL120, La120, mL120, cL120, kL120, aL122, La122, mL122, cL122, kL122, aL124, La124, mL124, cL124, kL124, aL163, La163, mL163, cL163, kL163, aL177, La177, mL177, cL177, kL177, aL200, La200, mL200, cL200, kL200, aL205, La205, mL205, cL205, kL205, aL255, La255, mL255, cL255, kL255, aL331, La331, mL331, cL331, kL331, aL480, La480, mL480, cL480, kL480, aL999, La999, mL999, cL999, kL999, aL1171, La1171, mL1171, cL1171, kL1171, aL1200, La1200, mL1200, cL1200, kL1200, aL2000, La2000, mL2000, cL2000, kL2000, aL4771, La4771, mL4771, cL4771, kL4771, aL6211, La6211, mL6211, cL6211, kL6211, aL6214, La6214, mL6214, cL6214, kL6214, aL6391, La6391, mL6391, cL6391, kL6391, aL8000, La8000, mL8000, cL8000, kL8000, aL9999, La9999, mL9999, cL9999, kL9999, aL20000, La20000, mL20000, cL20000, kL20000, aL96000, La96000, mL96000, cL96000, kL96000, nI_leI, nI_ltI, ne_bI, eq_bI, if_pos, if_neg, f_X11_matches_L80, hx2.r1001_197, hx2.l198, n198, q7]
      · have il := m_isLive (F := F) hx2 (m := k) (u := u) (by omega) hu2
        have ct := m_contains (F := F) (B := ai S 200) hx2 (by rw [n198]; exact h.w) (m := k) (c := K) (wl := ai S 201) (by rw [n198]; exact hk) s216 K10 (fun j hj => ⟨by rw [hS2]; exact g4 j hj, hl j hj⟩) (by omega)
        rw [n198] at il
        rw [n198, n200] at ct
        simp (disch := first | assumption | omega) only [ob_some, lt_eq, sm_l, sm_r, os_s, os_n, cki_nI, cki_0, cki_1, ck_bI, nI_clamp, cl0, cl1, nI_add, nI_mul, nI_1, nI_a0, nI_0a, nI_1a, nI_1m, aL2, La2, mL2, cL2, kL2, aL3, La3, mL3, cL3, kL3, aL4, La4, mL4, cL4, kL4, aL5, La5, mL5, cL5, kL5, aL6, La6, mL6, cL6, kL6, aL7, La7, mL7, cL7, kL7, aL8, La8, mL8, cL8, kL8, aL9, La9, mL9, cL9, kL9, aL10, La10, mL10, cL10, kL10, aL11, La11, mL11, cL11, kL11, aL12, La12, mL12, cL12, kL12, aL13, La13, mL13, cL13, kL13, aL14, La14, mL14, cL14, kL14, aL15, La15, mL15, cL15, kL15, aL16, La16, mL16, cL16, kL16, aL20, La20, mL20, cL20, kL20, aL21, La21, mL21, cL21, kL21, aL24, La24, mL24, cL24, kL24, aL27, La27, mL27, cL27, kL27, aL30, La30, mL30, cL30, kL30, aL31, La31, mL31, cL31, kL31, aL32, La32, mL32, cL32, kL32, aL48, La48, mL48, cL48, kL48, aL60, La60, mL60, cL60, kL60, aL83, La83, mL83, cL83, kL83, aL97, La97, mL97, cL97, kL97, aL99, La99, mL99, cL99, kL99, aL120, La120, mL120, cL120, kL120, aL122, La122, mL122, cL122, kL122, aL124, La124, mL124, cL124, kL124, aL163, La163, mL163, cL163, kL163, aL177, La177, mL177, cL177, kL177, aL200, La200, mL200, cL200, kL200, aL205, La205, mL205, cL205, kL205, aL255, La255, mL255, cL255, kL255, aL331, La331, mL331, cL331, kL331, aL480, La480, mL480, cL480, kL480, aL999, La999, mL999, cL999, kL999, aL1171, La1171, mL1171, cL1171, kL1171, aL1200, La1200, mL1200, cL1200, kL1200, aL2000, La2000, mL2000, cL2000, kL2000, aL4771, La4771, mL4771, cL4771, kL4771, aL6211, La6211, mL6211, cL6211, kL6211, aL6214, La6214, mL6214, cL6214, kL6214, aL6391, La6391, mL6391, cL6391, kL6391, aL8000, La8000, mL8000, cL8000, kL8000, aL9999, La9999, mL9999, cL9999, kL9999, aL20000, La20000, mL20000, cL20000, kL20000, aL96000, La96000, mL96000, cL96000, kL96000, nI_leI, nI_ltI, ne_bI, eq_bI, f_X11_matches_L80, f_X11_matches_L113, f_X11_matches_L114, hx2.r1001_197, hx2.l198, n198, q7, il, ct, pI_e0, Int32.add_zero]
        rw [if_neg (by omega)]
        by_cases z : stN (ai S 198) k u = 0
        · simp only [if_pos z, if_neg (show ¬ ¬ stN (ai S 198) k u = 0 from fun y => y z)]
          by_cases y : contB (ai S 198) (ai S 200) k (ai S 201) K
          · rw [pif_t y, pif_t y]
          · rw [pif_f y, pif_f y]
        · simp only [if_neg z, if_pos z]
    have al2 : al S2 = al S1 := by
      rw [hS2]
      show al T4 = _
      rw [g2.2.1, hS3]
      rfl
    refine endL 0 v S1 S2 ?_ (fm := fun S => f_X11_matches F S 197 (nI u)) fm ?_ (fun _ => ?_) ?_
    · rw [fc, ob_some]
      simp only [lt_eq, sm_r]
      rw [t7, hx.l210, cki_0 (by omega) (by omega), hS1]
      rfl
    · rw [hS2, si_ui, if_neg (by decide), g2.2.2.1, hS3, si_ui, if_neg (by decide)]
      exact th0 _ _
    · rw [al2, hS1, al_ual, if_pos ⟨rfl, rfl⟩]
    · refine h.inp (fun f j p => ?_) (fun f j p1 p2 p3 => ?_) (fun j p1 p2 p3 => ?_) (fun j p => ?_) (fun j p => ?_) ?_ ⟨0, by omega, ?_, by rw [hS2]; rfl, fun j hj => by omega⟩
      · rw [hS2, sr_ui, e14.1 f j p, hS1]
        exact t2 f j
      · rw [hS2, si_ui, if_neg p3, e14.2.1 _ _ p1, hS1, si_ual, t3 f j p2]
      · rw [hS2, ai_ui, e14.2.2.1 _ p1, a1]
      · rw [al2, hS1]
        funext z
        rw [al_ual, if_neg (fun y => p (by rw [y.1]; decide)), t5]
      · rw [hS2, ar_ui, e14.2.2.2.2.1 _ p, hS1]
        show ar T j = _
        rw [t6]
      · rw [hS2, ln_ui, e14.2.2.2.2.2, hS1]
        exact t7
      · rw [hS2, si_ui, if_neg (by decide), e14.2.1 _ _ (nF (by omega)), hS1, si_ual]
        exact t8
end A
