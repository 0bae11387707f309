section T10
variable {N B : Nat → Int32} {v : Int32}
theorem u_k {k : Nat} (h : ¬ k = 10) : kN (upd N 10 v) k = kN N k := by unfold kN; rw [upd_n h]
theorem u_cnt {k b : Nat} (h : ¬ k = 10) : isCnt (upd N 10 v) k b ↔ isCnt N k b := by unfold isCnt; rw [u_k h, upd_n h]
theorem u_st {m u : Nat} : stN (upd N 10 v) m u = stN N m u := upd_n (by omega)
theorem u_cl {m u : Nat} : clN (upd N 10 v) m u = clN N m u := upd_n (by omega)
theorem u_en {m u : Nat} : enN (upd N 10 v) m u = enN N m u := upd_n (by omega)
theorem u_le {q : Nat} : lenN (upd N 10 v) q = lenN N q := upd_n (by omega)
theorem u_is {q : Nat} : isN (upd N 10 v) q = isN N q := upd_n (by omega)
theorem u_de {q : Nat} : deN (upd N 10 v) q = deN N q := upd_n (by omega)
theorem u_many {m : Nat} : manyN (upd N 10 v) m = manyN N m := u_k (by omega)
theorem u_part {m i : Nat} : partN (upd N 10 v) m i = partN N m i := u_k (by omega)
theorem u_has {m q : Nat} : hasN (upd N 10 v) m q ↔ hasN N m q := by
  unfold hasN
  simp only [u_many, u_part]
theorem u_kept {m : Nat} : keptN (upd N 10 v) m ↔ keptN N m := by
  unfold keptN
  rw [u_k (by omega)]
  simp only [u_st]
theorem u_wd {o c : Nat} (h : 10 < o) : wdN (upd N 10 v) o c = wdN N o c := by
  unfold wdN
  exact runN_e (fun j b _ => by rw [upd_n (by omega)])
theorem u_nm {o c : Nat} (h : 10 < o) : isName (upd N 10 v) o c ↔ isName N o c := by
  unfold isName
  exact ⟨fun g => ⟨g.1, fun k hk => by have := g.2 k hk; rw [upd_n (by omega)] at this; exact this⟩, fun g => ⟨g.1, fun k hk => by rw [upd_n (by omega)]; exact g.2 k hk⟩⟩
theorem u_at {q c k : Nat} {w : Nat → Int32} : atB (upd N 10 v) B q w c k ↔ atB N B q w c k := by
  unfold atB
  rw [u_k (by omega)]
theorem u_asks {m h : Nat} : asksN (upd N 10 v) B m h ↔ asksN N B m h := by
  have e : (fun k => upd N 10 v (210 + 21 * h + k)) = fun k => N (210 + 21 * h + k) := by funext k; exact upd_n (by omega)
  unfold asksN contB
  rw [upd_n (by omega), upd_n (by omega), upd_n (by omega), upd_n (by omega), u_k (by omega), e]
  simp only [u_many, u_part, u_at]
theorem u_wf (W : WF N B) : WF (upd N 10 v) B := by
  obtain ⟨⟨a1, a2, a3, a4⟩, ⟨b1, b2, b3, b4, b5, b6, b7, b8⟩, c, d, e, f, g, h, i⟩ := W
  refine ⟨⟨(u_cnt (by omega)).mpr a1, (u_cnt (by omega)).mpr a2, by rw [u_k (by omega)]; exact a3, (u_cnt (by omega)).mpr a4⟩, ⟨(u_cnt (by omega)).mpr b1, (u_cnt (by omega)).mpr b2, (u_cnt (by omega)).mpr b3, (u_cnt (by omega)).mpr b4, (u_cnt (by omega)).mpr b5, (u_cnt (by omega)).mpr b6, (u_cnt (by omega)).mpr b7, by rw [u_k (by omega), u_k (by omega)]; exact b8⟩, fun x hx => ?_, fun x hx => ?_, fun x hx => ?_, fun x hx => ?_, fun x hx => ?_, fun m u hm hu => ?_, fun x hx => ?_⟩
  · rw [u_k (by omega)] at hx
    rw [upd_n (by omega), upd_n (by omega), u_cnt (by omega), u_cnt (by omega), u_cnt (by omega), u_k (by omega), u_k (by omega)]
    exact c x hx
  · rw [u_k (by omega)] at hx
    rw [u_cnt (by omega), u_cnt (by omega), u_k (by omega), u_k (by omega), u_k (by omega)]
    exact d x hx
  · rw [u_k (by omega)] at hx
    rw [u_cnt (by omega), u_k (by omega)]
    exact e x hx
  · rw [u_k (by omega)] at hx
    obtain ⟨q1, q2, q3, q4, q5, q6, q7⟩ := f x hx
    rw [u_cnt (by omega), u_cnt (by omega), u_cnt (by omega), u_cnt (by omega), u_k (by omega), u_k (by omega), u_k (by omega), upd_n (by omega)]
    exact ⟨q1, q2, q3, q4, q5, q6, fun k hk => by rw [upd_n (by omega)]; exact q7 k hk⟩
  · rw [u_k (by omega)] at hx
    obtain ⟨q1, q2, q3, q4, q5, q6⟩ := g x hx
    rw [u_cnt (by omega), u_cnt (by omega), u_cnt (by omega), u_k (by omega), u_k (by omega), u_k (by omega), u_many]
    exact ⟨q1, q2, q3, q4, q5, fun i hi => by rw [u_cnt (by omega), u_part]; exact q6 i hi⟩
  · rw [u_k (by omega)] at hm
    rw [u_st, u_cnt (by omega), u_cnt (by omega), u_k (by omega), u_k (by omega), u_k (by omega), u_k (by omega), u_k (by omega)]
    exact h m u hm hu
  · rw [u_k (by omega)] at hx
    obtain ⟨q1, q2, q3, q4, q5, q6, q7, q8⟩ := i x hx
    rw [u_cnt (by omega), u_k (by omega), u_is, u_de, u_cnt (by omega), u_k (by omega), u_k (by omega), u_k (by omega)]
    simp only [u_has, u_kept]
    exact ⟨q1, q2, q3, q4, q5, q6, q7, q8⟩
theorem Cl.ten {S : St} {n p : Nat} (g : Cl S n p N B) (v : Int32) : Cl (ui S 702 p v) n p (upd N 10 v) B := by
  have sI : ∀ f i, ¬ f = 702 → si (ui S 702 p v) f i = si S f i := fun f i q => by rw [si_ui, if_neg (fun z => q z.1)]
  obtain ⟨W, ⟨r, c2, c3, c4⟩, ⟨c5, c6, c7⟩, ⟨act, c8, c9, c10⟩, c11, c12, c13, ⟨⟨d1, d2, d3⟩, d4⟩, ⟨e1, fr, e2, e3, e4⟩, c16⟩ := g
  refine ⟨u_wf W, ⟨r, c2, c3, ?_⟩, ⟨?_, ?_, ?_⟩, ⟨act, (sI _ _ (by omega)).trans c8, c9, fun h hh => ?_⟩, fun u hu => ?_, fun m hm => ?_, fun m u hm hu => ?_, ⟨⟨?_, ?_, ?_⟩, fun q hq => ?_⟩, ⟨?_, fr, e2, (sI _ _ (by omega)).trans e3, fun k hk => ?_⟩, ?_⟩
  · obtain ⟨g1, g2, g3, g4, g5, g6⟩ := c4
    refine ⟨g1, ?_, fun c hc => ?_, fun c hc => ?_, fun c hc => ?_, fun c hc => ?_⟩
    · rw [sI _ _ (by omega), sI _ _ (by omega), sI _ _ (by omega), sI _ _ (by omega), sI _ _ (by omega), sI _ _ (by omega), upd_n (by omega), upd_n (by omega), upd_n (by omega), upd_n (by omega), upd_n (by omega), upd_n (by omega)]
      exact g2
    · rw [u_k (by omega)] at hc
      obtain ⟨p1, p2, p3, k, p4, p5, p6, p7⟩ := g3 c hc
      rw [upd_n (by omega), upd_n (by omega), upd_n (by omega)]
      exact ⟨p1, p2, p3, k, p4, (u_nm (by omega)).mpr p5, fun i i1 i2 => by rw [upd_n (by omega)]; exact p6 i i1 i2, by rw [u_wd (by omega)]; exact p7⟩
    · rw [u_k (by omega)] at hc
      obtain ⟨p1, k, p4, p5, p6, p7⟩ := g4 c hc
      rw [upd_n (by omega)]
      exact ⟨p1, k, p4, (u_nm (by omega)).mpr p5, fun i i1 i2 => by rw [upd_n (by omega)]; exact p6 i i1 i2, by rw [u_wd (by omega)]; exact p7⟩
    · rw [u_k (by omega)] at hc
      obtain ⟨p1, k, p4, p5, p6, p7⟩ := g5 c hc
      rw [upd_n (by omega)]
      exact ⟨p1, k, p4, (u_nm (by omega)).mpr p5, fun i i1 i2 => by rw [upd_n (by omega)]; exact p6 i i1 i2, by rw [u_wd (by omega)]; exact p7⟩
    · rw [u_k (by omega)] at hc
      obtain ⟨p1, p2, p3, p8, k, p4, p5, p6, p7⟩ := g6 c hc
      rw [upd_n (by omega), upd_n (by omega), upd_n (by omega), u_k (by omega)]
      exact ⟨p1, p2, p3, by rw [u_wd (by omega)]; exact p8, k, p4, (u_nm (by omega)).mpr p5, fun i i1 i2 => by rw [upd_n (by omega)]; exact p6 i i1 i2, by rw [u_wd (by omega)]; exact p7⟩
  · rw [sI _ _ (by omega), upd_n (by omega)]; exact c5
  · rw [si_ui, if_pos ⟨rfl, rfl⟩, upd_e]
  · rw [sI _ _ (by omega), upd_n (by omega)]; exact c7
  · rw [c10 h hh, u_k (by omega), upd_n (by omega)]
  · rw [u_k (by omega)] at hu
    rw [upd_n (by omega)]
    exact c11 u hu
  · rw [u_k (by omega)] at hm
    obtain ⟨j, x1, x2, x3, x4, x5, x6, x7, x8, msk, x9, x10, x11⟩ := c12 m hm
    refine ⟨j, x1, x2, x3, by rw [u_many]; exact x4, by rw [sI _ _ (by omega), upd_n (by omega)]; exact x5, by rw [sI _ _ (by omega), upd_n (by omega)]; exact x6, ?_, fun i hi => ?_, msk, (sI _ _ (by omega)).trans x9, x10, fun h hh => ?_⟩
    · rw [sI _ _ (by omega), x7, u_many]
      congr 1
      exact runN_e (fun i b _ => by rw [u_part, u_k (by omega)])
    · rw [u_many] at hi
      rw [upd_n (by omega)]
      exact x8 i hi
    · rw [x11 h hh, u_k (by omega), u_asks]
  · rw [u_k (by omega)] at hm
    rw [u_k (by omega), u_st, u_en, u_cl]
    exact c13 m u hm hu
  · rw [sI _ _ (by omega), upd_n (by omega)]; exact d1
  · rw [sI _ _ (by omega), u_k (by omega), d2]
    congr 1
    exact cntP_c (fun q _ => by rw [u_is])
  · rw [sI _ _ (by omega), u_k (by omega), d3]
    congr 1
    exact cntP_c (fun q _ => by rw [u_is, u_de])
  · rw [u_k (by omega)] at hq
    obtain ⟨⟨j, a1, a2, a3, a4, a5, a6⟩, ⟨m', b1, b2, b3, b4⟩, b5, b6⟩ := d4 q hq
    rw [u_k (by omega), u_k (by omega), u_is, u_de, u_le]
    refine ⟨⟨j, a1, a2, a3, a4, (sI _ _ (by omega)).trans a5, a6⟩, ⟨m', b1, u_has.mpr b2, fun m'' h y => b3 m'' h (u_has.mp y), b4⟩, ?_, b6⟩
    show ai S (p + 9) q = _
    rw [b5]
    congr 1
    exact cntP_c (fun k _ => by rw [u_has, u_kept])
  · rw [sI _ _ (by omega), upd_n (by omega)]; exact e1
  · rw [u_k (by omega)] at hk
    rw [upd_n (by omega), upd_n (by omega), upd_n (by omega)]
    exact e4 k hk
  · rw [u_k (by omega)]; exact c16
end T10
