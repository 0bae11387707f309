/-! a spool is copied, II (laid by gencopy.py) -/
theorem e_copyFrom {F : Nat} {S : St} {s d j : Nat} (hs : SpF S s) (hd : SpF S d) (hsd : s + 20 < d ∨ d + 20 < s) (hj : sr S 700 s = some j) (hF : 1000 ≤ F) : ∃ S', f_X8_copyFrom F S d s = some S' ∧ CpR S S' s d := by
  obtain ⟨T1, h1⟩ : ∃ T, T = ur S 700 d (some j) := ⟨_, rfl⟩
  have W1 : ∀ i, ¬ i = d → SameO S T1 i := fun i hi => by rw [h1]; exact SameO.ur _ hi
  have f1 : ∀ i, ¬ (d ≤ i ∧ i ≤ d + 20) → SameO S T1 i := fun i hi => W1 i (by omega)
  have r1 : ∀ f i, ¬ (f = 700 ∧ i = d) → sr T1 f i = sr S f i := fun f i q => by rw [h1, sr_ur, if_neg q]
  have l1 : ln T1 = ln S := by rw [h1]; rfl
  obtain ⟨T2, h2⟩ : ∃ T, T = ui T1 701 d (si T1 701 s) := ⟨_, rfl⟩
  have W2 : ∀ i, ¬ i = d → SameO T1 T2 i := fun i hi => by rw [h2]; exact SameO.ui _ hi
  have f2 : ∀ i, ¬ (d ≤ i ∧ i ≤ d + 20) → SameO S T2 i := fun i hi => (f1 i hi).tr (W2 i (by omega))
  have r2 : ∀ f i, ¬ (f = 700 ∧ i = d) → sr T2 f i = sr S f i := fun f i q => by rw [h2]; exact r1 f i q
  have l2 : ln T2 = ln S := by rw [h2]; exact l1
  obtain ⟨T3, h3⟩ : ∃ T, T = ui T2 702 d (si T2 702 s) := ⟨_, rfl⟩
  have W3 : ∀ i, ¬ i = d → SameO T2 T3 i := fun i hi => by rw [h3]; exact SameO.ui _ hi
  have f3 : ∀ i, ¬ (d ≤ i ∧ i ≤ d + 20) → SameO S T3 i := fun i hi => (f2 i hi).tr (W3 i (by omega))
  have r3 : ∀ f i, ¬ (f = 700 ∧ i = d) → sr T3 f i = sr S f i := fun f i q => by rw [h3]; exact r2 f i q
  have l3 : ln T3 = ln S := by rw [h3]; exact l2
  obtain ⟨T4, h4⟩ : ∃ T, T = ui T3 703 d (si T3 703 s) := ⟨_, rfl⟩
  have W4 : ∀ i, ¬ i = d → SameO T3 T4 i := fun i hi => by rw [h4]; exact SameO.ui _ hi
  have f4 : ∀ i, ¬ (d ≤ i ∧ i ≤ d + 20) → SameO S T4 i := fun i hi => (f3 i hi).tr (W4 i (by omega))
  have r4 : ∀ f i, ¬ (f = 700 ∧ i = d) → sr T4 f i = sr S f i := fun f i q => by rw [h4]; exact r3 f i q
  have l4 : ln T4 = ln S := by rw [h4]; exact l3
  obtain ⟨T5, h5⟩ : ∃ T, T = sai T4 (d + 1) (cpF (ai T4 (s + 1)) (ai T4 (d + 1)) 10) := ⟨_, rfl⟩
  have W5 : ∀ i, ¬ i = (d + 1) → SameO T4 T5 i := fun i hi => by rw [h5]; exact SameO.sai _ hi
  have f5 : ∀ i, ¬ (d ≤ i ∧ i ≤ d + 20) → SameO S T5 i := fun i hi => (f4 i hi).tr (W5 i (by omega))
  have r5 : ∀ f i, ¬ (f = 700 ∧ i = d) → sr T5 f i = sr S f i := fun f i q => by rw [h5]; exact r4 f i q
  have l5 : ln T5 = ln S := by rw [h5]; exact l4
  obtain ⟨T6, h6⟩ : ∃ T, T = ui T5 705 d (si T5 705 s) := ⟨_, rfl⟩
  have W6 : ∀ i, ¬ i = d → SameO T5 T6 i := fun i hi => by rw [h6]; exact SameO.ui _ hi
  have f6 : ∀ i, ¬ (d ≤ i ∧ i ≤ d + 20) → SameO S T6 i := fun i hi => (f5 i hi).tr (W6 i (by omega))
  have r6 : ∀ f i, ¬ (f = 700 ∧ i = d) → sr T6 f i = sr S f i := fun f i q => by rw [h6]; exact r5 f i q
  have l6 : ln T6 = ln S := by rw [h6]; exact l5
  obtain ⟨T7, h7⟩ : ∃ T, T = sarF T6 (s + 2) (d + 2) 120 := ⟨_, rfl⟩
  have W7 : ∀ i, ¬ i = (d + 2) → SameO T6 T7 i := fun i hi => by rw [h7]; exact SameO.sar trivial hi
  have f7 : ∀ i, ¬ (d ≤ i ∧ i ≤ d + 20) → SameO S T7 i := fun i hi => (f6 i hi).tr (W7 i (by omega))
  have r7 : ∀ f i, ¬ (f = 700 ∧ i = d) → sr T7 f i = sr S f i := fun f i q => by rw [h7]; exact r6 f i q
  have l7 : ln T7 = ln S := by rw [h7]; exact l6
  obtain ⟨T8, h8⟩ : ∃ T, T = sai T7 (d + 3) (cpF (ai T7 (s + 3)) (ai T7 (d + 3)) 1200) := ⟨_, rfl⟩
  have W8 : ∀ i, ¬ i = (d + 3) → SameO T7 T8 i := fun i hi => by rw [h8]; exact SameO.sai _ hi
  have f8 : ∀ i, ¬ (d ≤ i ∧ i ≤ d + 20) → SameO S T8 i := fun i hi => (f7 i hi).tr (W8 i (by omega))
  have r8 : ∀ f i, ¬ (f = 700 ∧ i = d) → sr T8 f i = sr S f i := fun f i q => by rw [h8]; exact r7 f i q
  have l8 : ln T8 = ln S := by rw [h8]; exact l7
  obtain ⟨T9, h9⟩ : ∃ T, T = sai T8 (d + 4) (cpF (ai T8 (s + 4)) (ai T8 (d + 4)) 1200) := ⟨_, rfl⟩
  have W9 : ∀ i, ¬ i = (d + 4) → SameO T8 T9 i := fun i hi => by rw [h9]; exact SameO.sai _ hi
  have f9 : ∀ i, ¬ (d ≤ i ∧ i ≤ d + 20) → SameO S T9 i := fun i hi => (f8 i hi).tr (W9 i (by omega))
  have r9 : ∀ f i, ¬ (f = 700 ∧ i = d) → sr T9 f i = sr S f i := fun f i q => by rw [h9]; exact r8 f i q
  have l9 : ln T9 = ln S := by rw [h9]; exact l8
  obtain ⟨T10, h10⟩ : ∃ T, T = sai T9 (d + 5) (cpF (ai T9 (s + 5)) (ai T9 (d + 5)) 1200) := ⟨_, rfl⟩
  have W10 : ∀ i, ¬ i = (d + 5) → SameO T9 T10 i := fun i hi => by rw [h10]; exact SameO.sai _ hi
  have f10 : ∀ i, ¬ (d ≤ i ∧ i ≤ d + 20) → SameO S T10 i := fun i hi => (f9 i hi).tr (W10 i (by omega))
  have r10 : ∀ f i, ¬ (f = 700 ∧ i = d) → sr T10 f i = sr S f i := fun f i q => by rw [h10]; exact r9 f i q
  have l10 : ln T10 = ln S := by rw [h10]; exact l9
  obtain ⟨T11, h11⟩ : ∃ T, T = ui T10 800 (d + 6) (si T10 800 (s + 6)) := ⟨_, rfl⟩
  have W11 : ∀ i, ¬ i = (d + 6) → SameO T10 T11 i := fun i hi => by rw [h11]; exact SameO.ui _ hi
  have f11 : ∀ i, ¬ (d ≤ i ∧ i ≤ d + 20) → SameO S T11 i := fun i hi => (f10 i hi).tr (W11 i (by omega))
  have r11 : ∀ f i, ¬ (f = 700 ∧ i = d) → sr T11 f i = sr S f i := fun f i q => by rw [h11]; exact r10 f i q
  have l11 : ln T11 = ln S := by rw [h11]; exact l10
  obtain ⟨T12, h12⟩ : ∃ T, T = ui T11 801 (d + 6) (si T11 801 (s + 6)) := ⟨_, rfl⟩
  have W12 : ∀ i, ¬ i = (d + 6) → SameO T11 T12 i := fun i hi => by rw [h12]; exact SameO.ui _ hi
  have f12 : ∀ i, ¬ (d ≤ i ∧ i ≤ d + 20) → SameO S T12 i := fun i hi => (f11 i hi).tr (W12 i (by omega))
  have r12 : ∀ f i, ¬ (f = 700 ∧ i = d) → sr T12 f i = sr S f i := fun f i q => by rw [h12]; exact r11 f i q
  have l12 : ln T12 = ln S := by rw [h12]; exact l11
  obtain ⟨T13, h13⟩ : ∃ T, T = ui T12 802 (d + 6) (si T12 802 (s + 6)) := ⟨_, rfl⟩
  have W13 : ∀ i, ¬ i = (d + 6) → SameO T12 T13 i := fun i hi => by rw [h13]; exact SameO.ui _ hi
  have f13 : ∀ i, ¬ (d ≤ i ∧ i ≤ d + 20) → SameO S T13 i := fun i hi => (f12 i hi).tr (W13 i (by omega))
  have r13 : ∀ f i, ¬ (f = 700 ∧ i = d) → sr T13 f i = sr S f i := fun f i q => by rw [h13]; exact r12 f i q
  have l13 : ln T13 = ln S := by rw [h13]; exact l12
  obtain ⟨T14, h14⟩ : ∃ T, T = sarF T13 (s + 7) (d + 7) 480 := ⟨_, rfl⟩
  have W14 : ∀ i, ¬ i = (d + 7) → SameO T13 T14 i := fun i hi => by rw [h14]; exact SameO.sar trivial hi
  have f14 : ∀ i, ¬ (d ≤ i ∧ i ≤ d + 20) → SameO S T14 i := fun i hi => (f13 i hi).tr (W14 i (by omega))
  have r14 : ∀ f i, ¬ (f = 700 ∧ i = d) → sr T14 f i = sr S f i := fun f i q => by rw [h14]; exact r13 f i q
  have l14 : ln T14 = ln S := by rw [h14]; exact l13
  obtain ⟨T15, h15⟩ : ∃ T, T = sai T14 (d + 8) (cpF (ai T14 (s + 8)) (ai T14 (d + 8)) 480) := ⟨_, rfl⟩
  have W15 : ∀ i, ¬ i = (d + 8) → SameO T14 T15 i := fun i hi => by rw [h15]; exact SameO.sai _ hi
  have f15 : ∀ i, ¬ (d ≤ i ∧ i ≤ d + 20) → SameO S T15 i := fun i hi => (f14 i hi).tr (W15 i (by omega))
  have r15 : ∀ f i, ¬ (f = 700 ∧ i = d) → sr T15 f i = sr S f i := fun f i q => by rw [h15]; exact r14 f i q
  have l15 : ln T15 = ln S := by rw [h15]; exact l14
  obtain ⟨T16, h16⟩ : ∃ T, T = sai T15 (d + 9) (cpF (ai T15 (s + 9)) (ai T15 (d + 9)) 480) := ⟨_, rfl⟩
  have W16 : ∀ i, ¬ i = (d + 9) → SameO T15 T16 i := fun i hi => by rw [h16]; exact SameO.sai _ hi
  have f16 : ∀ i, ¬ (d ≤ i ∧ i ≤ d + 20) → SameO S T16 i := fun i hi => (f15 i hi).tr (W16 i (by omega))
  have r16 : ∀ f i, ¬ (f = 700 ∧ i = d) → sr T16 f i = sr S f i := fun f i q => by rw [h16]; exact r15 f i q
  have l16 : ln T16 = ln S := by rw [h16]; exact l15
  obtain ⟨T17, h17⟩ : ∃ T, T = sai T16 (d + 10) (cpF (ai T16 (s + 10)) (ai T16 (d + 10)) 480) := ⟨_, rfl⟩
  have W17 : ∀ i, ¬ i = (d + 10) → SameO T16 T17 i := fun i hi => by rw [h17]; exact SameO.sai _ hi
  have f17 : ∀ i, ¬ (d ≤ i ∧ i ≤ d + 20) → SameO S T17 i := fun i hi => (f16 i hi).tr (W17 i (by omega))
  have r17 : ∀ f i, ¬ (f = 700 ∧ i = d) → sr T17 f i = sr S f i := fun f i q => by rw [h17]; exact r16 f i q
  have l17 : ln T17 = ln S := by rw [h17]; exact l16
  obtain ⟨T18, h18⟩ : ∃ T, T = sai T17 (d + 14) (cpF (ai T17 (s + 14)) (ai T17 (d + 14)) 60) := ⟨_, rfl⟩
  have W18 : ∀ i, ¬ i = (d + 14) → SameO T17 T18 i := fun i hi => by rw [h18]; exact SameO.sai _ hi
  have f18 : ∀ i, ¬ (d ≤ i ∧ i ≤ d + 20) → SameO S T18 i := fun i hi => (f17 i hi).tr (W18 i (by omega))
  have r18 : ∀ f i, ¬ (f = 700 ∧ i = d) → sr T18 f i = sr S f i := fun f i q => by rw [h18]; exact r17 f i q
  have l18 : ln T18 = ln S := by rw [h18]; exact l17
  obtain ⟨T19, h19⟩ : ∃ T, T = sai T18 (d + 15) (cpF (ai T18 (s + 15)) (ai T18 (d + 15)) 60) := ⟨_, rfl⟩
  have W19 : ∀ i, ¬ i = (d + 15) → SameO T18 T19 i := fun i hi => by rw [h19]; exact SameO.sai _ hi
  have f19 : ∀ i, ¬ (d ≤ i ∧ i ≤ d + 20) → SameO S T19 i := fun i hi => (f18 i hi).tr (W19 i (by omega))
  have r19 : ∀ f i, ¬ (f = 700 ∧ i = d) → sr T19 f i = sr S f i := fun f i q => by rw [h19]; exact r18 f i q
  have l19 : ln T19 = ln S := by rw [h19]; exact l18
  obtain ⟨T20, h20⟩ : ∃ T, T = sai T19 (d + 16) (cpF (ai T19 (s + 16)) (ai T19 (d + 16)) 60) := ⟨_, rfl⟩
  have W20 : ∀ i, ¬ i = (d + 16) → SameO T19 T20 i := fun i hi => by rw [h20]; exact SameO.sai _ hi
  have f20 : ∀ i, ¬ (d ≤ i ∧ i ≤ d + 20) → SameO S T20 i := fun i hi => (f19 i hi).tr (W20 i (by omega))
  have r20 : ∀ f i, ¬ (f = 700 ∧ i = d) → sr T20 f i = sr S f i := fun f i q => by rw [h20]; exact r19 f i q
  have l20 : ln T20 = ln S := by rw [h20]; exact l19
  obtain ⟨T21, h21⟩ : ∃ T, T = ui T20 203 (d + 13) (si T20 203 (s + 13)) := ⟨_, rfl⟩
  have W21 : ∀ i, ¬ i = (d + 13) → SameO T20 T21 i := fun i hi => by rw [h21]; exact SameO.ui _ hi
  have f21 : ∀ i, ¬ (d ≤ i ∧ i ≤ d + 20) → SameO S T21 i := fun i hi => (f20 i hi).tr (W21 i (by omega))
  have r21 : ∀ f i, ¬ (f = 700 ∧ i = d) → sr T21 f i = sr S f i := fun f i q => by rw [h21]; exact r20 f i q
  have l21 : ln T21 = ln S := by rw [h21]; exact l20
  obtain ⟨T22, h22⟩ : ∃ T, T = ui T21 204 (d + 13) (si T21 204 (s + 13)) := ⟨_, rfl⟩
  have W22 : ∀ i, ¬ i = (d + 13) → SameO T21 T22 i := fun i hi => by rw [h22]; exact SameO.ui _ hi
  have f22 : ∀ i, ¬ (d ≤ i ∧ i ≤ d + 20) → SameO S T22 i := fun i hi => (f21 i hi).tr (W22 i (by omega))
  have r22 : ∀ f i, ¬ (f = 700 ∧ i = d) → sr T22 f i = sr S f i := fun f i q => by rw [h22]; exact r21 f i q
  have l22 : ln T22 = ln S := by rw [h22]; exact l21
  have sp : ∀ T, (∀ f i, ¬ (f = 700 ∧ i = d) → sr T f i = sr S f i) → ln T = ln S → SpF T s ∧ SpF T d := fun T q1 q2 => ⟨⟨fun q hq => by
    have := (show ∀ q ∈ spR, ¬ q.1 = 700 by decide) q hq
    rw [q1 _ _ (fun z => this z.1)]; exact hs.1 q hq, fun q hq => by rw [q2]; exact hs.2 q hq⟩, ⟨fun q hq => by
    have := (show ∀ q ∈ spR, ¬ q.1 = 700 by decide) q hq
    rw [q1 _ _ (fun z => this z.1)]; exact hd.1 q hq, fun q hq => by rw [q2]; exact hd.2 q hq⟩⟩
  obtain ⟨a1, b1⟩ := sp T1 r1 l1
  obtain ⟨a2, b2⟩ := sp T2 r2 l2
  obtain ⟨a3, b3⟩ := sp T3 r3 l3
  obtain ⟨a4, b4⟩ := sp T4 r4 l4
  obtain ⟨a5, b5⟩ := sp T5 r5 l5
  obtain ⟨a6, b6⟩ := sp T6 r6 l6
  obtain ⟨a7, b7⟩ := sp T7 r7 l7
  obtain ⟨a8, b8⟩ := sp T8 r8 l8
  obtain ⟨a9, b9⟩ := sp T9 r9 l9
  obtain ⟨a10, b10⟩ := sp T10 r10 l10
  obtain ⟨a11, b11⟩ := sp T11 r11 l11
  obtain ⟨a12, b12⟩ := sp T12 r12 l12
  obtain ⟨a13, b13⟩ := sp T13 r13 l13
  obtain ⟨a14, b14⟩ := sp T14 r14 l14
  obtain ⟨a15, b15⟩ := sp T15 r15 l15
  obtain ⟨a16, b16⟩ := sp T16 r16 l16
  obtain ⟨a17, b17⟩ := sp T17 r17 l17
  obtain ⟨a18, b18⟩ := sp T18 r18 l18
  obtain ⟨a19, b19⟩ := sp T19 r19 l19
  obtain ⟨a20, b20⟩ := sp T20 r20 l20
  obtain ⟨a21, b21⟩ := sp T21 r21 l21
  obtain ⟨a22, b22⟩ := sp T22 r22 l22
  refine ⟨T22, ?_, ?_⟩
  · have E1 : f_X8_copyFrom F S d s = f_X8_copyFrom_L53 F F T6 d s 0 := by
      unfold f_X8_copyFrom
      rw [hj, ob_some, lt_eq, ← h1, lt_eq, ← h2, lt_eq, ← h3, lt_eq, ← h4, a4.r704_0, ob_some, b4.r704_0, ob_some, e_copyRow (l := 10) a4.l1 b4.l1 (by omega), ob_some, ← h5, lt_eq, ← h6]
    rw [E1, e_cpMsgs a6 b6 hsd hF, ← h7]
    unfold f_X8_copyFrom_L89
    rw [a7.r707_0, ob_some, b7.r707_0, ob_some, e_copyRow (l := 1200) a7.l3 b7.l3 (by omega), ob_some, ← h8, a8.r708_0, ob_some, b8.r708_0, ob_some, e_copyRow (l := 1200) a8.l4 b8.l4 (by omega), ob_some, ← h9, a9.r709_0, ob_some, b9.r709_0, ob_some, e_copyRow (l := 1200) a9.l5 b9.l5 (by omega), ob_some, ← h10, b10.r710_0, ob_some, a10.r710_0, ob_some]
    have E2 : f_X9_copyFrom F T10 (d + 6) (s + 6) = some T17 := by
      unfold f_X9_copyFrom
      rw [lt_eq, ← h11, lt_eq, ← h12, lt_eq, ← h13, e_cpParts a13 b13 hsd hF, ← h14]
      unfold f_X9_copyFrom_L62
      rw [a14.r804_6, ob_some, b14.r804_6, ob_some, e_copyRow (l := 480) a14.l8 b14.l8 (by omega), ob_some, ← h15, a15.r805_6, ob_some, b15.r805_6, ob_some, e_copyRow (l := 480) a15.l9 b15.l9 (by omega), ob_some, ← h16, a16.r806_6, ob_some, b16.r806_6, ob_some, e_copyRow (l := 480) a16.l10 b16.l10 (by omega), ob_some, ← h17]
    have E3 : f_X2_copyFrom F T17 (d + 13) (s + 13) = some T22 := by
      unfold f_X2_copyFrom
      rw [a17.r200_13, ob_some, b17.r200_13, ob_some, e_copyRow (l := 60) a17.l14 b17.l14 (by omega), ob_some, ← h18, a18.r201_13, ob_some, b18.r201_13, ob_some, e_copyRow (l := 60) a18.l15 b18.l15 (by omega), ob_some, ← h19, a19.r202_13, ob_some, b19.r202_13, ob_some, e_copyRow (l := 60) a19.l16 b19.l16 (by omega), ob_some, ← h20, lt_eq, ← h21, lt_eq, ← h22]
    rw [E2, ob_some, b17.r711_0, ob_some, a17.r711_0, ob_some, E3, ob_some]
  · refine ⟨f22, r22, l22, ?_, ⟨?_, ?_, ?_, ?_⟩, ⟨?_, ?_, ?_⟩, ⟨?_, ?_⟩, ?_, ?_, ?_, ?_, ?_⟩
    · rw [(W22 d (by omega)).2.1, (W21 d (by omega)).2.1, (W20 d (by omega)).2.1, (W19 d (by omega)).2.1, (W18 d (by omega)).2.1, (W17 d (by omega)).2.1, (W16 d (by omega)).2.1, (W15 d (by omega)).2.1, (W14 d (by omega)).2.1, (W13 d (by omega)).2.1, (W12 d (by omega)).2.1, (W11 d (by omega)).2.1, (W10 d (by omega)).2.1, (W9 d (by omega)).2.1, (W8 d (by omega)).2.1, (W7 d (by omega)).2.1, h6, sr_ui, (W5 d (by omega)).2.1, h4, sr_ui, h3, sr_ui, h2, sr_ui, h1, sr_ur, if_pos ⟨rfl, rfl⟩, hj]
    · rw [(W22 d (by omega)).1, (W21 d (by omega)).1, (W20 d (by omega)).1, (W19 d (by omega)).1, (W18 d (by omega)).1, (W17 d (by omega)).1, (W16 d (by omega)).1, (W15 d (by omega)).1, (W14 d (by omega)).1, (W13 d (by omega)).1, (W12 d (by omega)).1, (W11 d (by omega)).1, (W10 d (by omega)).1, (W9 d (by omega)).1, (W8 d (by omega)).1, (W7 d (by omega)).1, h6, si_ui, if_neg (by omega), (W5 d (by omega)).1, h4, si_ui, if_neg (by omega), h3, si_ui, if_neg (by omega), h2, si_ui, if_pos ⟨rfl, rfl⟩, (f1 s (by omega)).1]
    · rw [(W22 d (by omega)).1, (W21 d (by omega)).1, (W20 d (by omega)).1, (W19 d (by omega)).1, (W18 d (by omega)).1, (W17 d (by omega)).1, (W16 d (by omega)).1, (W15 d (by omega)).1, (W14 d (by omega)).1, (W13 d (by omega)).1, (W12 d (by omega)).1, (W11 d (by omega)).1, (W10 d (by omega)).1, (W9 d (by omega)).1, (W8 d (by omega)).1, (W7 d (by omega)).1, h6, si_ui, if_neg (by omega), (W5 d (by omega)).1, h4, si_ui, if_neg (by omega), h3, si_ui, if_pos ⟨rfl, rfl⟩, (f2 s (by omega)).1]
    · rw [(W22 d (by omega)).1, (W21 d (by omega)).1, (W20 d (by omega)).1, (W19 d (by omega)).1, (W18 d (by omega)).1, (W17 d (by omega)).1, (W16 d (by omega)).1, (W15 d (by omega)).1, (W14 d (by omega)).1, (W13 d (by omega)).1, (W12 d (by omega)).1, (W11 d (by omega)).1, (W10 d (by omega)).1, (W9 d (by omega)).1, (W8 d (by omega)).1, (W7 d (by omega)).1, h6, si_ui, if_neg (by omega), (W5 d (by omega)).1, h4, si_ui, if_pos ⟨rfl, rfl⟩, (f3 s (by omega)).1]
    · rw [(W22 d (by omega)).1, (W21 d (by omega)).1, (W20 d (by omega)).1, (W19 d (by omega)).1, (W18 d (by omega)).1, (W17 d (by omega)).1, (W16 d (by omega)).1, (W15 d (by omega)).1, (W14 d (by omega)).1, (W13 d (by omega)).1, (W12 d (by omega)).1, (W11 d (by omega)).1, (W10 d (by omega)).1, (W9 d (by omega)).1, (W8 d (by omega)).1, (W7 d (by omega)).1, h6, si_ui, if_pos ⟨rfl, rfl⟩, (f5 s (by omega)).1]
    · rw [(W22 (d + 6) (by omega)).1, (W21 (d + 6) (by omega)).1, (W20 (d + 6) (by omega)).1, (W19 (d + 6) (by omega)).1, (W18 (d + 6) (by omega)).1, (W17 (d + 6) (by omega)).1, (W16 (d + 6) (by omega)).1, (W15 (d + 6) (by omega)).1, (W14 (d + 6) (by omega)).1, h13, si_ui, if_neg (by omega), h12, si_ui, if_neg (by omega), h11, si_ui, if_pos ⟨rfl, rfl⟩, (f10 (s + 6) (by omega)).1]
    · rw [(W22 (d + 6) (by omega)).1, (W21 (d + 6) (by omega)).1, (W20 (d + 6) (by omega)).1, (W19 (d + 6) (by omega)).1, (W18 (d + 6) (by omega)).1, (W17 (d + 6) (by omega)).1, (W16 (d + 6) (by omega)).1, (W15 (d + 6) (by omega)).1, (W14 (d + 6) (by omega)).1, h13, si_ui, if_neg (by omega), h12, si_ui, if_pos ⟨rfl, rfl⟩, (f11 (s + 6) (by omega)).1]
    · rw [(W22 (d + 6) (by omega)).1, (W21 (d + 6) (by omega)).1, (W20 (d + 6) (by omega)).1, (W19 (d + 6) (by omega)).1, (W18 (d + 6) (by omega)).1, (W17 (d + 6) (by omega)).1, (W16 (d + 6) (by omega)).1, (W15 (d + 6) (by omega)).1, (W14 (d + 6) (by omega)).1, h13, si_ui, if_pos ⟨rfl, rfl⟩, (f12 (s + 6) (by omega)).1]
    · rw [h22, si_ui, if_neg (by omega), h21, si_ui, if_pos ⟨rfl, rfl⟩, (f20 (s + 13) (by omega)).1]
    · rw [h22, si_ui, if_pos ⟨rfl, rfl⟩, (f21 (s + 13) (by omega)).1]
    · intro k hk; exact by rw [(((((((((((((((((W6 (d + 1) (by omega)).tr (W7 (d + 1) (by omega))).tr (W8 (d + 1) (by omega))).tr (W9 (d + 1) (by omega))).tr (W10 (d + 1) (by omega))).tr (W11 (d + 1) (by omega))).tr (W12 (d + 1) (by omega))).tr (W13 (d + 1) (by omega))).tr (W14 (d + 1) (by omega))).tr (W15 (d + 1) (by omega))).tr (W16 (d + 1) (by omega))).tr (W17 (d + 1) (by omega))).tr (W18 (d + 1) (by omega))).tr (W19 (d + 1) (by omega))).tr (W20 (d + 1) (by omega))).tr (W21 (d + 1) (by omega))).tr (W22 (d + 1) (by omega))).2.2.1, h5, ai_sai, if_pos rfl]; unfold cpF; rw [if_pos hk, (f4 (s + 1) (by omega)).2.2.1]
    · intro k hk; exact ⟨by rw [((((((((((((((W9 (d + 3) (by omega)).tr (W10 (d + 3) (by omega))).tr (W11 (d + 3) (by omega))).tr (W12 (d + 3) (by omega))).tr (W13 (d + 3) (by omega))).tr (W14 (d + 3) (by omega))).tr (W15 (d + 3) (by omega))).tr (W16 (d + 3) (by omega))).tr (W17 (d + 3) (by omega))).tr (W18 (d + 3) (by omega))).tr (W19 (d + 3) (by omega))).tr (W20 (d + 3) (by omega))).tr (W21 (d + 3) (by omega))).tr (W22 (d + 3) (by omega))).2.2.1, h8, ai_sai, if_pos rfl]; unfold cpF; rw [if_pos hk, (f7 (s + 3) (by omega)).2.2.1], by rw [(((((((((((((W10 (d + 4) (by omega)).tr (W11 (d + 4) (by omega))).tr (W12 (d + 4) (by omega))).tr (W13 (d + 4) (by omega))).tr (W14 (d + 4) (by omega))).tr (W15 (d + 4) (by omega))).tr (W16 (d + 4) (by omega))).tr (W17 (d + 4) (by omega))).tr (W18 (d + 4) (by omega))).tr (W19 (d + 4) (by omega))).tr (W20 (d + 4) (by omega))).tr (W21 (d + 4) (by omega))).tr (W22 (d + 4) (by omega))).2.2.1, h9, ai_sai, if_pos rfl]; unfold cpF; rw [if_pos hk, (f8 (s + 4) (by omega)).2.2.1], by rw [((((((((((((W11 (d + 5) (by omega)).tr (W12 (d + 5) (by omega))).tr (W13 (d + 5) (by omega))).tr (W14 (d + 5) (by omega))).tr (W15 (d + 5) (by omega))).tr (W16 (d + 5) (by omega))).tr (W17 (d + 5) (by omega))).tr (W18 (d + 5) (by omega))).tr (W19 (d + 5) (by omega))).tr (W20 (d + 5) (by omega))).tr (W21 (d + 5) (by omega))).tr (W22 (d + 5) (by omega))).2.2.1, h10, ai_sai, if_pos rfl]; unfold cpF; rw [if_pos hk, (f9 (s + 5) (by omega)).2.2.1]⟩
    · intro k hk; exact ⟨by rw [(((((((W16 (d + 8) (by omega)).tr (W17 (d + 8) (by omega))).tr (W18 (d + 8) (by omega))).tr (W19 (d + 8) (by omega))).tr (W20 (d + 8) (by omega))).tr (W21 (d + 8) (by omega))).tr (W22 (d + 8) (by omega))).2.2.1, h15, ai_sai, if_pos rfl]; unfold cpF; rw [if_pos hk, (f14 (s + 8) (by omega)).2.2.1], by rw [((((((W17 (d + 9) (by omega)).tr (W18 (d + 9) (by omega))).tr (W19 (d + 9) (by omega))).tr (W20 (d + 9) (by omega))).tr (W21 (d + 9) (by omega))).tr (W22 (d + 9) (by omega))).2.2.1, h16, ai_sai, if_pos rfl]; unfold cpF; rw [if_pos hk, (f15 (s + 9) (by omega)).2.2.1], by rw [(((((W18 (d + 10) (by omega)).tr (W19 (d + 10) (by omega))).tr (W20 (d + 10) (by omega))).tr (W21 (d + 10) (by omega))).tr (W22 (d + 10) (by omega))).2.2.1, h17, ai_sai, if_pos rfl]; unfold cpF; rw [if_pos hk, (f16 (s + 10) (by omega)).2.2.1], by rw [((((((((W15 (d + 7) (by omega)).tr (W16 (d + 7) (by omega))).tr (W17 (d + 7) (by omega))).tr (W18 (d + 7) (by omega))).tr (W19 (d + 7) (by omega))).tr (W20 (d + 7) (by omega))).tr (W21 (d + 7) (by omega))).tr (W22 (d + 7) (by omega))).2.2.2.2.1, h14]; unfold sarF; rw [ar_sar, if_pos rfl, if_pos hk, (f13 (s + 7) (by omega)).2.2.2.2.1]⟩
    · intro k hk; exact by rw [(((((((((((((((W8 (d + 2) (by omega)).tr (W9 (d + 2) (by omega))).tr (W10 (d + 2) (by omega))).tr (W11 (d + 2) (by omega))).tr (W12 (d + 2) (by omega))).tr (W13 (d + 2) (by omega))).tr (W14 (d + 2) (by omega))).tr (W15 (d + 2) (by omega))).tr (W16 (d + 2) (by omega))).tr (W17 (d + 2) (by omega))).tr (W18 (d + 2) (by omega))).tr (W19 (d + 2) (by omega))).tr (W20 (d + 2) (by omega))).tr (W21 (d + 2) (by omega))).tr (W22 (d + 2) (by omega))).2.2.2.2.1, h7]; unfold sarF; rw [ar_sar, if_pos rfl, if_pos hk, (f6 (s + 2) (by omega)).2.2.2.2.1]
    · intro k hk; exact ⟨by rw [((((W19 (d + 14) (by omega)).tr (W20 (d + 14) (by omega))).tr (W21 (d + 14) (by omega))).tr (W22 (d + 14) (by omega))).2.2.1, h18, ai_sai, if_pos rfl]; unfold cpF; rw [if_pos hk, (f17 (s + 14) (by omega)).2.2.1], by rw [(((W20 (d + 15) (by omega)).tr (W21 (d + 15) (by omega))).tr (W22 (d + 15) (by omega))).2.2.1, h19, ai_sai, if_pos rfl]; unfold cpF; rw [if_pos hk, (f18 (s + 15) (by omega)).2.2.1], by rw [((W21 (d + 16) (by omega)).tr (W22 (d + 16) (by omega))).2.2.1, h20, ai_sai, if_pos rfl]; unfold cpF; rw [if_pos hk, (f19 (s + 16) (by omega)).2.2.1]⟩
/-- what held of the spool at s holds of the copy at d -/
theorem Cl1.copy {S S' : St} {n s d : Nat} {N B : Nat → Int32} (c : CpR S S' s d) (h : Cl0 S n s N B) (hj : CJ S s N) (hd : 27 ≤ d ∧ d + 20 < 197) : Cl0 S' n d N B ∧ CJ S' d N := by
  obtain ⟨c1, c2, c3, c4, c5, c6, c7, c8, c9, c10, c11, c12⟩ := c
  have w := h.wb
  have b4 := w.n4.2
  have b7 := w.n7.2
  have b8 := w.n8.2
  have b9 := w.n9.2
  obtain ⟨g1, ⟨r, g2, g3, g4⟩, g5, ⟨act, g6, g7, g8⟩, g9, g10, g11, g12⟩ := h
  have g3' := g3
  unfold dyn at g3'
  refine ⟨⟨g1, ⟨r, c4.trans g2, g3, g4.agr (fun i i1 i2 => c1 i (by omega))⟩, by rw [c5.1, c5.2.1, c5.2.2.2]; exact g5, ⟨act, c5.2.2.1.trans g6, g7, g8⟩, fun u hu => by rw [c8 u (by omega)]; exact g9 u hu, fun m hm => ?_, fun m u hm hu => ?_, ?_, fun q hq => ?_⟩, ?_⟩
  · obtain ⟨j, x1, x2, x3, x4, x5, x6, x7, x8, x9⟩ := g10 m hm
    have x2' := x2
    obtain ⟨y1, y2⟩ := x2'
    have D := c1 j (by omega)
    have D1 := c1 (j + 1) (by omega)
    exact ⟨j, by rw [c11 m (by omega)]; exact x1, x2, by rw [D.2.1]; exact x3, by rw [c3]; exact x4, by rw [D.1]; exact x5, by rw [D.1]; exact x6, by rw [D.1]; exact x7, by rw [D1.2.2.1]; exact x8, by rw [D.1]; exact x9⟩
  · obtain ⟨x1, x2, x3⟩ := c9 (10 * m + u) (by omega)
    rw [x1, x2, x3]
    exact g11 m u hm hu
  · rw [c6.1, c6.2.1, c6.2.2]; exact g12.1
  · obtain ⟨⟨j, x1, x2, x3, x4, x5, x6⟩, y, z1, z2⟩ := g12.2 q hq
    have x2' := x2
    obtain ⟨y1, y2⟩ := x2'
    have D := c1 j (by omega)
    have D1 := c1 (j + 1) (by omega)
    obtain ⟨p1, p2, p3, p4⟩ := c10 q (by omega)
    exact ⟨⟨j, by rw [p4]; exact x1, x2, by rw [D.2.1]; exact x3, by rw [c3]; exact x4, by rw [D.1]; exact x5, by rw [D1.2.2.1]; exact x6⟩, by rw [p1]; exact y, by rw [p2]; exact z1, by rw [p3]; exact z2⟩
  · obtain ⟨x1, f, x2, x3, x4⟩ := hj
    refine ⟨c7.2.trans x1, f, x2, c7.1.trans x3, fun k hk => ?_⟩
    have := Nat.mod_lt (f + k) (show 0 < 60 by omega)
    obtain ⟨p1, p2, p3⟩ := c12 ((f + k) % 60) this
    rw [p1, p2, p3]
    exact x4 k hk
theorem Cl.copy {S S' : St} {n s d : Nat} {N B : Nat → Int32} (c : CpR S S' s d) (h : Cl S n s N B) (hd : 27 ≤ d ∧ d + 20 < 197) (hs : ¬ s = 48 := by omega) : Cl S' n d N B :=
  Cl.mk' (Cl1.copy c h.c0 h.cj hd).1 (Cl1.copy c h.c0 h.cj hd).2 (Or.inr (h.dy.resolve_left hs))

