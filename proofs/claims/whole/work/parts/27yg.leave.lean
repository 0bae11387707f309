/-! one reference leaves its class -/
noncomputable def lv1 (L : (Nat → Int32) → Int32 → Int32 → Nat → Int32) (N B : Nat → Int32) (m u : Nat) : Nat → Int32 := if N (13 + 9 * clK N m u) = -1 then seN L N m u (if covN N B m u = 0 then 3 else 2) (if covN N B m u = 0 then 4 else 5) else L (updR N m u 0 (N (13 + 9 * clK N m u)) (N 2)) 3 (nI m)
theorem lv1_lo {L : (Nat → Int32) → Int32 → Int32 → Nat → Int32} {N B : Nat → Int32} {m u k : Nat} (hL : isLg L) (b8 : kN N 8 ≤ 480) (h : k < 6211) (h9 : ¬ k = 9) (hd : ¬ xD k) (h0 : ¬ k = 1171 + 3 * (10 * m + u)) (h1 : ¬ k = 1172 + 3 * (10 * m + u)) (h2 : ¬ k = 1173 + 3 * (10 * m + u)) : lv1 L N B m u k = N k := by
  unfold lv1
  by_cases z : N (13 + 9 * clK N m u) = -1
  · rw [if_pos z, seN_lo hL b8 h h9 hd, stS_n h0]
  · rw [if_neg z, (hL _ _ _).1 k h h9, updR_n h0 h1 h2]
section Lv
variable {F : Nat} {S : St} {n p m u : Nat} {N B : Nat → Int32}
/-- what leaving writes at the class's spool -/
def LvF (S T : St) (p : Nat) : Prop := (∀ i, ¬ i = p + 3 → ¬ i = p + 4 → ¬ i = p + 5 → ¬ i = p + 6 → ¬ i = p + 9 → ¬ i = p + 10 → ¬ (p + 13 ≤ i ∧ i ≤ p + 16) → SameO S T i) ∧ (∀ f i, sr T f i = sr S f i) ∧ ln T = ln S
theorem LvF.rf (S : St) (p : Nat) : LvF S S p := ⟨fun i _ _ _ _ _ _ _ => SameO.rf S i, fun _ _ => rfl, rfl⟩
theorem LvF.tr {T U : St} (h : LvF S T p) (g : LvF T U p) : LvF S U p := ⟨fun i a b c d e f k => (h.1 i a b c d e f k).tr (g.1 i a b c d e f k), fun f i => (g.2.1 f i).trans (h.2.1 f i), g.2.2.trans h.2.2⟩
theorem e_lv1 (g : Cl S n p N B) (hp : 27 ≤ p ∧ p + 20 < 212) (hs : SpF S p) (hm : m < kN N 7) (hu : u < kN N 4) (h0 : stN N m u = 0) (hF : 1000 ≤ F) {β : Type} (G : St → Option β) :
    ∃ T, (if ¬ N (13 + 9 * clK N m u) = -1 then (Option.bind (f_X8_enterClass F S p (nI m) (nI u) (N (13 + 9 * clK N m u))) fun S5 =>
  Option.bind (sr S5 711 p) fun j8 =>
  Option.bind (f_X2_note F S5 j8 (si S5 701 p) ((3 : Int32)) (nI m)) fun S10 => G S10) else Option.bind (f_X8_endReference F S p (nI m) (nI u) ((2 : Int32))) fun S26 => G S26) = G T ∧ Cl T n p (lv1 lgN N B m u) B ∧ LvF S T p := by
  have C := g.c0
  have w := C.wb
  have b4 := w.n4.2
  have b7 := w.n7.2
  have b3 := w.n3.2
  obtain ⟨c1, c2⟩ := clK_lt w hm hu
  by_cases z : N (13 + 9 * clK N m u) = -1
  · obtain ⟨T, t1, t2, t3, t4, t5⟩ := e_endRef (F := F) (v := 2) g hp hs hm hu (Int32.ge01 h0) (Or.inr (Or.inl rfl)) (Or.inr (Or.inr rfl)) hF
    refine ⟨T, ?_, ?_, fun i a _ _ b c d e => t3 i a b c d e, t4, t5⟩
    · rw [if_neg (fun y => y z), t1, ob_some]
    · unfold lv1
      rw [if_pos z]
      exact t2
  · obtain ⟨-, -, q3⟩ := w.wC _ c1
    obtain ⟨y1, y2⟩ := q3.resolve_left z
    obtain ⟨c, hc⟩ : ∃ c, c = kN N (13 + 9 * clK N m u) := ⟨_, rfl⟩
    have ec : N (13 + 9 * clK N m u) = nI c := by rw [hc]; exact y1.1
    have hc3 : c < kN N 3 := by omega
    obtain ⟨T1, hT1⟩ : ∃ T1, T1 = uai (uai S (p + 4) (10 * m + u) (nI c)) (p + 5) (10 * m + u) (N 2) := ⟨_, rfl⟩
    have O1 : ∀ i, ¬ i = p + 4 → ¬ i = p + 5 → SameO S T1 i := fun i a b => by rw [hT1]; exact (SameO.uai _ a).tr (SameO.uai _ b)
    have r1 : ∀ f i, sr T1 f i = sr S f i := fun f i => by rw [hT1]; rfl
    have l1 : ln T1 = ln S := by rw [hT1]; rfl
    have g1 : Cl T1 n p (updR N m u 0 (nI c) (N 2)) B := by
      refine g.ref hp hm hu (Or.inl rfl) (Int32.ge01 h0) hc3 (fun i hi => O1 i (by omega) (by omega)) (fun k => ?_) (fun k => ?_) (fun k => ?_)
      · rw [(O1 (p + 3) (by omega) (by omega)).row]
        by_cases y : k = 10 * m + u
        · rw [if_pos y, y, ← h0]; exact (C.cf m u hm (by omega)).1
        · rw [if_neg y]
      · rw [hT1, ai_uai, if_neg (by omega), ai_uai]
        by_cases y : k = 10 * m + u
        · rw [if_pos ⟨rfl, y⟩, if_pos y]
        · rw [if_neg (fun q => y q.2), if_neg y]
      · rw [hT1, ai_uai]
        by_cases y : k = 10 * m + u
        · rw [if_pos ⟨rfl, y⟩, if_pos y]
        · rw [if_neg (fun q => y q.2), if_neg y, ai_uai, if_neg (by omega)]
    obtain ⟨T2, t1, t2, t3, t4, t5⟩ := g1.note (F := F) hp (hs.frm r1 l1) 3 (nI m)
    rw [updR_n (by omega) (by omega) (by omega)] at t1
    refine ⟨T2, ?_, ?_, fun i _ a b _ _ _ e => (O1 i a b).tr (t3 i e), fun f i => (t4 f i).trans (r1 f i), t5.trans l1⟩
    · rw [if_pos z, ec, e_enter C hs (by omega) (by omega), ob_some, ← hT1, r1, hs.r711_0, ob_some, (O1 p (by omega) (by omega)).1, C.s701, t1, ob_some]
    · unfold lv1
      rw [if_neg z, ec]
      exact t2
end Lv
