/-! statements after an error: the model -/
section B2
variable {F : Nat} {S T : St} {f : Nat → Int32} {L s : Nat}
/-- a write into the draft -/
theorem w199 (hx : FxF S) (h4 : sr S 1004 197 = some 199) {o : Nat} (ho : o < 6391) (v : Int32) {β : Type} (G : St → Option β) : (Option.bind (sr S 1004 197) fun j => cki (nI o) (ln S j) <| lt (uai S j (Int32.toNatClampNeg (nI o)) v) fun S1 => G S1) = G (uai S 199 o v) := by
  rw [h4, ob_some, hx.l199, cki_nI ho (by omega), nI_clamp (by omega), lt_eq]
theorem cl_161 (hx : FxF S) (h4 : sr S 1004 197 = some 199) : f_X11_parseClass_L161 F S 197 = some (uai S 199 3 (ai S 199 3 + 1)) := by
  unfold f_X11_parseClass_L161
  rw [h4, ob_some, hx.l199, show (3 : Int32) = nI 3 from rfl, cki_nI (by omega) (by omega), cki_nI (by omega) (by omega), nI_clamp (by omega), lt_eq]
theorem b_126 (b : BdM f L s S) {o : Nat} (ho : o + 2 < 6391) (hF : 1000 ≤ F) : ∃ T, f_X11_parseClass_L126 F S 197 (nI o) = some T ∧ D9 S T := by
  obtain ⟨S1, hS1⟩ : ∃ S1, S1 = uai S 199 (o + 2) (-1) := ⟨_, rfl⟩
  have d1 : D9 S S1 := by rw [hS1]; exact D9.uai _
  have b1 := b.fr d1
  refine ⟨uai S1 199 3 (ai S1 199 3 + 1), ?_, d1.tr (D9.uai _)⟩
  unfold f_X11_parseClass_L126
  rw [b.2.2.2.2, ob_some, b.1.l199, show (2 : Int32) = nI 2 from rfl, nI_add, cki_nI ho (by omega), nI_clamp (by omega), lt_eq, ← hS1, b_isText b1 (by omega) hF, ob_some]
  simp only [lt_eq]
  rw [if_pos True.intro, cl_161 b1.1 b1.2.2.2.2]
theorem b_90 (b : BdM f L s S) {o : Nat} (ho : o + 2 < 6391) (v : Int32) (hF : 1000 ≤ F) : ∃ T, f_X11_parseClass_L90 F S 197 (nI o) v (nI o) 199 = some T ∧ D9 S T := by
  obtain ⟨S1, hS1⟩ : ∃ S1, S1 = uai S 199 o v := ⟨_, rfl⟩
  obtain ⟨S2, hS2⟩ : ∃ S2, S2 = uai S1 199 (o + 1) 0 := ⟨_, rfl⟩
  have d1 : D9 S S1 := by rw [hS1]; exact D9.uai _
  have d2 : D9 S1 S2 := by rw [hS2]; exact D9.uai _
  have b1 := b.fr d1
  have b2 := b1.fr d2
  obtain ⟨T, t1, t2⟩ := b_126 b2 ho hF
  refine ⟨T, ?_, (d1.tr d2).tr t2⟩
  unfold f_X11_parseClass_L90
  rw [b.1.l199, cki_nI (by omega) (by omega), nI_clamp (by omega), lt_eq, ← hS1, b1.2.2.2.2, ob_some, b1.1.l199, nI_1, cki_nI (by omega) (by omega), nI_clamp (by omega), lt_eq, ← hS2, b_isText b2 (by omega) hF, ob_some]
  simp only [lt_eq]
  rw [if_pos True.intro, t1]
theorem b_67 (b : BdM f L s S) {o : Nat} (ho : o + 2 < 6391) (v2 : Int32) (hF : 1000 ≤ F) : ∃ T, f_X11_parseClass_L67 F S 197 (nI o) v2 = some T ∧ D9 S T := by
  unfold f_X11_parseClass_L67
  rw [b.2.2.2.2, ob_some, Int32.add_zero]
  by_cases z : v2 = 0
  · rw [if_pos z, b_number b, ob_some]
    exact b_90 b ho _ hF
  · rw [if_neg z]
    exact b_90 b ho _ hF
/-- from the word after a class's name on -/
theorem b_cls (b : BdM f L s S) {o : Nat} (ho : o + 2 < 6391) (hF : 1000 ≤ F) : ∃ T, (Option.bind (f_X11_word F S 197 4) fun S106 =>
  Option.bind (f_X11_isText F S106 197 5) fun z109 => lt z109.1 fun r111 => lt z109.2 fun S110 =>
  if r111 = 0 then
  (f_X11_parseClass_L67 F S110 197 (nI o) r111)
  else
  (Option.bind (f_X11_goOn F S110 197) fun S115 =>
  f_X11_parseClass_L67 F S115 197 (nI o) r111)) = some T ∧ D9 S T := by
  rw [b_word b (by omega) hF, ob_some, b_isText b (by omega) hF, ob_some]
  simp only [lt_eq]
  rw [if_pos True.intro]
  exact b_67 b ho 0 hF
/-- a user: from its class on, from its quota on -/
def us3 (F : Nat) (S : St) (o : Int32) : Option St := Option.bind (sr S 1004 197) fun j24 =>
  Option.bind (f_X11_numberAfter F S 197 9 ((1 : Int32)) ((99999 : Int32))) fun z25 => lt z25.1 fun r27 => lt z25.2 fun S26 =>
  cki (o + 1) (ln S26 j24) <|
  lt (uai S26 j24 (Int32.toNatClampNeg (o + 1)) r27) fun S30 =>
  Option.bind (sr S30 1004 197) fun j31 =>
  cki 4 (ln S30 j31) <|
  cki 4 (ln S30 j31) <|
  lt (uai S30 j31 (Int32.toNatClampNeg 4) ((ai S30 j31 (Int32.toNatClampNeg 4)) + 1)) fun S34 =>
  some S34
def us2 (F : Nat) (S : St) (o : Int32) : Option St := Option.bind (sr S 1004 197) fun j17 =>
  Option.bind (f_X11_oldName F S 197 ((0 : Int32))) fun z18 => lt z18.1 fun r20 => lt z18.2 fun S19 =>
  cki (o + 0) (ln S19 j17) <|
  lt (uai S19 j17 (Int32.toNatClampNeg (o + 0)) r20) fun S23 => us3 F S23 o
theorem us_eq (S : St) (s0 : Int32) : f_X11_parseUser_L26 F S 197 s0 197 = Option.bind (f_X11_begins F S 197 s0) fun z1 => lt z1.1 fun r3 => lt z1.2 fun S2 =>
  if ¬ r3 = 0 then
  (Option.bind (sr S2 1004 197) fun j6 =>
  cki 4 (ln S2 j6) <|
  lt (83 + (8 * (ai S2 j6 (Int32.toNatClampNeg 4)))) fun x8 =>
  Option.bind (f_X11_newName F S2 197 ((1 : Int32)) ((2 : Int32)) (x8 + 2)) fun S10 =>
  Option.bind (f_X11_word F S10 197 3) fun S14 => us2 F S14 x8)
  else
  (some S2) := by
  unfold f_X11_parseUser_L26
  rfl
theorem b_us3 (b : BdM f L s S) {o : Nat} (ho : o + 1 < 6391) (hF : 1000 ≤ F) : ∃ T, us3 F S (nI o) = some T ∧ D9 S T := by
  obtain ⟨S1, hS1⟩ : ∃ S1, S1 = uai S 199 (o + 1) 1 := ⟨_, rfl⟩
  have d1 : D9 S S1 := by rw [hS1]; exact D9.uai _
  have b1 := b.fr d1
  refine ⟨uai S1 199 4 (ai S1 199 4 + 1), ?_, d1.tr (D9.uai _)⟩
  unfold us3
  rw [b.2.2.2.2, ob_some, b_numberAfter b (by omega) _ _ hF, ob_some]
  simp only [lt_eq]
  rw [b.1.l199, nI_1, cki_nI ho (by omega), nI_clamp (by omega), ← hS1, b1.2.2.2.2, ob_some, b1.1.l199, show (4 : Int32) = nI 4 from rfl, cki_nI (by omega) (by omega), cki_nI (by omega) (by omega), nI_clamp (by omega)]
theorem b_us2 (b : BdM f L s S) {o : Nat} (ho : o + 1 < 6391) (hF : 1000 ≤ F) : ∃ T, us2 F S (nI o) = some T ∧ D9 S T := by
  obtain ⟨S1, hS1⟩ : ∃ S1, S1 = uai S 199 o 0 := ⟨_, rfl⟩
  have d1 : D9 S S1 := by rw [hS1]; exact D9.uai _
  obtain ⟨T, t1, t2⟩ := b_us3 (F := F) (b.fr d1) ho hF
  refine ⟨T, ?_, d1.tr t2⟩
  unfold us2
  rw [b.2.2.2.2, ob_some, b_oldName b, ob_some]
  simp only [lt_eq]
  rw [b.1.l199, Int32.add_zero, cki_nI (by omega) (by omega), nI_clamp (by omega), ← hS1]
  exact t1
theorem b_usr (b : BdM f L s S) {o : Nat} (ho : o + 1 < 6391) (hF : 1000 ≤ F) : ∃ T, (Option.bind (f_X11_word F S 197 3) fun S14 => us2 F S14 (nI o)) = some T ∧ D9 S T := by
  rw [b_word b (by omega) hF, ob_some]
  exact b_us2 b ho hF
/-- a group: from a member on -/
theorem b_61 (b : BdM f L s S) {o : Nat} (ho : o < 6391) (v : Int32) (hF : 1000 ≤ F) : ∃ T, f_X11_parseGroup_L61 F F S 197 (nI o) v = some T ∧ D9 S T := by
  obtain ⟨fu, rfl⟩ : ∃ f', F = f' + 1 := ⟨F - 1, by omega⟩
  obtain ⟨S1, hS1⟩ : ∃ S1, S1 = uai S 199 o v := ⟨_, rfl⟩
  have d1 : D9 S S1 := by rw [hS1]; exact D9.uai _
  have b1 := b.fr d1
  refine ⟨uai S1 199 5 (ai S1 199 5 + 1), ?_, d1.tr (D9.uai _)⟩
  unfold f_X11_parseGroup_L61
  rw [b_isSymbol b, ob_some]
  simp only [lt_eq]
  rw [if_pos True.intro, b.2.2.2.2, ob_some, b.1.l199, Int32.add_zero, cki_nI ho (by omega), nI_clamp (by omega), ← hS1, b1.2.2.2.2, ob_some, b1.1.l199, show (5 : Int32) = nI 5 from rfl, cki_nI (by omega) (by omega), cki_nI (by omega) (by omega), nI_clamp (by omega)]
theorem b_grp (b : BdM f L s S) {o : Nat} (ho : o < 6391) (hF : 1000 ≤ F) : ∃ T, (Option.bind (f_X11_member F S 197) fun z55 => lt z55.1 fun r57 => lt z55.2 fun S56 => f_X11_parseGroup_L61 F F S56 197 (nI o) r57) = some T ∧ D9 S T := by
  rw [b_member b, ob_some]
  exact b_61 b ho 0 hF
/-- the end of a statement -/
theorem b_69 (b : BdM f L s S) : f_X11_parseStatement_L69 F S 197 = some S := by
  unfold f_X11_parseStatement_L69 f_X11_parseStatement_L83
  rw [b_isSymbol b, ob_some]
  simp only [lt_eq]
  rw [if_neg (fun y => y True.intro), b_errs b, ob_some, b_goOn b, ob_some]
/-- the end of the text -/
theorem b_121 (b : BdM f L s S) (hF : 1000 ≤ F) : f_X11_load_L121 F F S 197 = some (-4, ur S 1004 197 (some 198)) := by
  obtain ⟨fu, rfl⟩ : ∃ f', F = f' + 1 := ⟨F - 1, by omega⟩
  unfold f_X11_load_L121 f_X11_load_L142
  rw [b_good b, ob_some]
  simp only [lt_eq]
  have g : f_X11_good (fu + 1) (ur S 1004 197 (some 198)) 197 = some (0, ur S 1004 197 (some 198)) := by
    unfold f_X11_good
    rw [if_pos (show ¬ si (ur S 1004 197 (some 198)) 1013 197 = 0 from b.2.2.2.1)]
  rw [if_pos True.intro, b.1.r1001_197, ob_some, g, ob_some]
  simp only [lt_eq]
  rw [if_neg (fun y => y True.intro)]
end B2
