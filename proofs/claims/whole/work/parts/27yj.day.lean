/-! a day more -/
def dayN (N : Nat → Int32) : Nat → Int32 := upd N 2 (nI (kN N 2 + 1))
theorem dayN_n {N : Nat → Int32} {k : Nat} (h : ¬ k = 2) : dayN N k = N k := upd_n h
theorem dayN_k {N : Nat → Int32} {k : Nat} (h : ¬ k = 2) : kN (dayN N) k = kN N k := by unfold kN; rw [dayN_n h]
theorem dayN_c {N : Nat → Int32} {k b : Nat} (h : ¬ k = 2) : isCnt (dayN N) k b ↔ isCnt N k b := by unfold isCnt; rw [dayN_k h, dayN_n h]
theorem dayN_2 {N : Nat → Int32} (h : kN N 2 < 22000) : isCnt (dayN N) 2 22000 ∧ kN (dayN N) 2 = kN N 2 + 1 := isCnt_nI (upd_e N 2 _) (by omega) (by omega)
theorem WB.day {N B : Nat → Int32} (w : WB N B) (h : kN N 2 < 22000) : WB (dayN N) B := by
  have b3 := w.n3.2
  have b4 := w.n4.2
  have b6 := w.n6.2
  have b7 := w.n7.2
  have b8 := w.n8.2
  obtain ⟨d1, d2⟩ := dayN_2 h
  have k3 : kN (dayN N) 3 = kN N 3 := dayN_k (by omega)
  have k4 : kN (dayN N) 4 = kN N 4 := dayN_k (by omega)
  have k5 : kN (dayN N) 5 = kN N 5 := dayN_k (by omega)
  have k6 : kN (dayN N) 6 = kN N 6 := dayN_k (by omega)
  have k7 : kN (dayN N) 7 = kN N 7 := dayN_k (by omega)
  have k8 : kN (dayN N) 8 = kN N 8 := dayN_k (by omega)
  refine ⟨⟨(dayN_c (by omega)).mpr w.n0, (dayN_c (by omega)).mpr w.n1, by rw [dayN_k (by omega)]; exact w.n1p, d1⟩, ⟨(dayN_c (by omega)).mpr w.n3, (dayN_c (by omega)).mpr w.n4, (dayN_c (by omega)).mpr w.n5, (dayN_c (by omega)).mpr w.n6, (dayN_c (by omega)).mpr w.n7, (dayN_c (by omega)).mpr w.n8, (dayN_c (by omega)).mpr w.n9⟩, fun c hc => ?_, fun u hu => ?_, fun g hg => ?_, fun x hx => ?_, fun m hm => ?_, fun m u hm hu => ?_, fun q hq => ?_⟩
  · rw [k3] at hc
    have q := w.wC c hc
    rw [dayN_n (by omega), dayN_n (by omega), dayN_c (by omega), dayN_c (by omega), dayN_c (by omega), dayN_k (by omega), dayN_k (by omega)]
    exact q
  · rw [k4] at hu
    have q := w.wU u hu
    rw [dayN_c (by omega), dayN_c (by omega), k3, dayN_k (k := 83 + 8 * u) (by omega), dayN_k (k := 84 + 8 * u) (by omega)]
    exact q
  · rw [k5] at hg
    have q := w.wG g hg
    rw [dayN_c (by omega), dayN_k (by omega)]
    exact q
  · rw [k6] at hx
    obtain ⟨q1, q2, q3, q4, q5, q6, q7⟩ := w.wH x hx
    refine ⟨(dayN_c (by omega)).mpr q1, by rw [dayN_k (by omega), k4]; exact q2, (dayN_c (by omega)).mpr q3, (dayN_c (by omega)).mpr q4, by rw [dayN_n (by omega)]; exact q5, (dayN_c (by omega)).mpr q6, fun k hk => ?_⟩
    rw [dayN_k (by omega)] at hk
    rw [dayN_n (by omega)]
    exact q7 k hk
  · rw [k7] at hm
    obtain ⟨q1, q2, q3, q4, q5, q6⟩ := w.wM m hm
    have mm : manyN (dayN N) m = manyN N m := dayN_k (by omega)
    refine ⟨(dayN_c (by omega)).mpr q1, (dayN_c (by omega)).mpr q2, by rw [dayN_k (by omega), d2]; omega, (dayN_c (by omega)).mpr q4, by rw [mm]; exact q5, fun i hi => ?_⟩
    rw [mm] at hi
    have pp : partN (dayN N) m i = partN N m i := dayN_k (by omega)
    exact ⟨(dayN_c (by omega)).mpr (q6 i hi).1, by rw [pp, k8]; exact (q6 i hi).2⟩
  · rw [k7] at hm
    obtain ⟨q1, q2, q3, q4, q5⟩ := w.wR m u hm hu
    have e0 : stN (dayN N) m u = stN N m u := dayN_n (by omega)
    rw [e0, k4, k3]
    exact ⟨q1, q2, (dayN_c (by omega)).mpr q3, by rw [dayN_k (by omega), d2]; omega, fun y => ⟨(dayN_c (by omega)).mpr (q5 y).1, by rw [dayN_k (by omega)]; exact (q5 y).2⟩⟩
  · rw [k8] at hq
    obtain ⟨q1, q2, q3, q4, q5⟩ := w.wP q hq
    have e0 : isN (dayN N) q = isN N q := dayN_n (by omega)
    have e1 : deN (dayN N) q = deN N q := dayN_n (by omega)
    rw [e0, e1, dayN_k (by omega)]
    exact ⟨(dayN_c (by omega)).mpr q1, q2, q3, q4.imp id (fun y => ⟨(dayN_c (by omega)).mpr y.1, by rw [dayN_k (by omega), d2]; omega⟩), q5⟩
