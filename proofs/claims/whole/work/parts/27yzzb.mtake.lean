/-! the model takes a message in -/
section Mt
variable {F : Nat} {U : St} {f N B : Nat → Int32} {L : Nat}
theorem b10_wp (W : WF N B) {rec sz : Nat} : Wp (b10 N rec sz) := by
  have w := W.wp
  have kk : ∀ k, k < 6211 → ¬ k = 9 → ¬ k = 10 → kN (b10 N rec sz) k = kN N k := fun k a b c => by unfold kN; rw [b10_n a b c]
  have cc : ∀ k b, k < 6211 → ¬ k = 9 → ¬ k = 10 → isCnt N k b → isCnt (b10 N rec sz) k b := fun k b a1 a2 a3 y => by unfold isCnt at y ⊢; rw [kk k a1 a2 a3, b10_n a1 a2 a3]; exact y
  refine ⟨cc _ _ (by omega) (by omega) (by omega) w.1, ?_, fun q hq => ?_⟩
  · unfold b10
    exact (u_cnt (by omega)).mpr (bn_9 w.2.1 _)
  · rw [kk 8 (by omega) (by omega) (by omega)] at hq
    have := w.1.2
    exact cc _ _ (by omega) (by omega) (by omega) (w.2.2 q hq)
theorem m_take {sn rec : Nat} (hx : FxF U) (ht : si U 1005 197 = 0) (hN : ai U 198 = N) (hB : ai U 200 = B) (W : WF N B) (mc : MCut U f L) (hL : L ≤ 1200) (hf : ∀ i, i < L → ai U 201 i = f i ∧ (f i).toInt8.toInt32 = f i) (hg : gdC f L) (hm : kN N 7 < 120) (hrc : rec < 1024) (c : Int32) (hF : 10000 ≤ F) :
    ∃ V, (Option.bind (f_X11_sizeIn F U 197) fun z76 => lt z76.1 fun r78 => lt z76.2 fun S77 => f_X11_deliver_L112 F F S77 197 (nI sn) (nI rec) c r78 0 0) = some (if bN N rec (szC f L (kC f L)) = rec then -2 else nI (kN N 7), ui V 1007 197 0) ∧ Mf no8 is98 U V ∧ ai V 198 = afN N B f L sn rec c ∧ ai V 200 = afB N B f L rec := by
  have wb := W.wb
  have b4 := wb.n4.2
  obtain ⟨T, t1, t2, t3⟩ := m_bounce (F := F) (B := B) (r := rec) (sz := szC f L (kC f L)) hx ht hN wb hrc (by omega) (nI sn) c
  obtain ⟨bl, bb⟩ := bn_b (N := N) (P := bnP N rec (szC f L (kC f L))) (kN N 4) b4
  have hxT := t1.mfr.fx hx
  obtain ⟨b2, hb2⟩ : ∃ b2, b2 = bN N rec (szC f L (kC f L)) := ⟨_, rfl⟩
  have hb2' : (bnN (bnP N rec (szC f L (kC f L))) N (kN N 4)).2 = b2 := by rw [hb2]; rfl
  rw [hb2'] at t3 bl
  obtain ⟨V1, hV1⟩ : ∃ V1, V1 = uai T 198 10 (nI b2) := ⟨_, rfl⟩
  have nv : Net T V1 := by rw [hV1]; exact Net.uai _ _
  have fv : Net U V1 := t1.tr nv
  have hxV := fv.mfr.fx hx
  have v198 : ai V1 198 = b10 N rec (szC f L (kC f L)) := by
    rw [hV1, ai_uaiE, t2]
    unfold b10
    rw [← hb2]
  have v200 : ai V1 200 = B := by rw [fv.row (by omega)]; exact hB
  have eqb : nI b2 = nI rec ↔ b2 = rec := nI_eq (by omega) (by omega)
  rw [m_sizeIn hx mc hL hF, ob_some, lt_eq, lt_eq, t3, ob_some, hxT.l198, show (10 : Int32) = nI 10 from rfl, cki_nI (by omega) (by omega), nI_clamp (by omega), ← hV1, lt_eq]
  unfold afN afB
  rw [← hb2]
  by_cases z : b2 = rec
  · rw [if_neg (fun y => y (eqb.mpr z)), if_pos z, if_pos z, if_pos z]
    unfold f_X11_deliver_L211 f_X11_deliver_L234
    rw [if_pos rfl, lt_eq]
    exact ⟨V1, rfl, Mf.n98 fv, v198, v200⟩
  · rw [if_pos (fun y => z (eqb.mp y)), if_neg z, if_neg z, if_neg z, hxV.r1001_197, ob_some, hxV.l198, show (7 : Int32) = nI 7 from rfl, cki_nI (by omega) (by omega), nI_clamp (by omega), v198, b10_n (by omega) (by omega) (by omega), wb.n7.1]
    unfold f_X11_deliver_L211
    rw [if_neg (show ¬ nI (kN N 7) = -2 from fun y => nI_pos (n := kN N 7) (by omega) (by rw [y]; decide)), off_eq _ _ hrc]
    have mcV : MCut V1 f L := mc.fr (Mf.n98 fv)
    have fV : ∀ i, i < L → ai V1 201 i = f i ∧ (f i).toInt8.toInt32 = f i := fun i h => by rw [fv.row (by omega)]; exact hf i h
    have h7 : ai V1 198 7 = nI (kN N 7) := by rw [v198, b10_n (by omega) (by omega) (by omega)]; exact wb.n7.1
    have h8 : kN (ai V1 198) 8 ≤ 4 * kN N 7 := by
      have : kN (ai V1 198) 8 = kN N 8 := by unfold kN; rw [v198, b10_n (by omega) (by omega) (by omega)]
      rw [this]
      exact W.2.1.2.2.2.2.2.2.2
    obtain ⟨V, p1, p2, p3, p4⟩ := m_storeMessage (F := F) hxV ((fv.si 1005 197).trans ht) mcV hL fV hg (by rw [v198]; exact b10_wp W) hm h7 h8 (r := rec &&& (1023 ^^^ b2)) (Nat.lt_of_le_of_lt Nat.and_le_left hrc) (nI sn) c hF
    rw [p1, ob_some]
    unfold f_X11_deliver_L234
    rw [lt_eq]
    refine ⟨V, rfl, (Mf.n98 fv).tr p2, ?_, by rw [p4, v198, v200]⟩
    rw [p3, v198, v200]
    rfl
end Mt
