/-- the empty state -/
def SE : St := (fun _ _ => 0, fun _ _ => none, fun _ _ => 0, fun _ _ => 0, fun _ _ => 0, fun _ _ => none, fun _ => 0)
section X0
variable {p : Program} {l : Launch} {e : Env} {R : Room} {s : State} {m : MethodId} {args : Array Value} {below : List Frame} {meth : Method} {c : Code} {H : Heap} {locs : List Loc} {cells slots : Nat} {Q : State → Prop}
variable {cc : ByteArray} {pc : Nat} {ls : Array Slot} {rest : List Value} {g : GP} {ad : Nat → Nat} {n : Nat} {K : Nat → Nat} {S : St} {A : Nat → Prop} {own : String} {Ts : List Cond} {nL : Nat} {a : Nat}
/-- a static call of a method that is given nothing of the world: it begins with an empty one, and the caller's stays as it is -/
theorem x_acallS0 {index y bytes maxL ret ws rm na S1 st0 mc ms n1} {o : Option Value} {ad0 K0 : Nat → Nat} {P : (Nat → Nat) → Prop} (hC : Cx g p s m args c cc own Ts nL) (hls : ls.size = nL) (hW : Wb g ad n K S A H) (hS : va_S A s.heap H locs) (hG : GF g A s s.heap) (hA : ∀ q, s.heap.size ≤ q → A q)
    (hM : Met l y ws rm (va_Pc [] (PB g ad0 0 K0 SE H.size)) (QA ad0 K0 0 (fun _ => o) g n1 S1 (dA ad0 0 H.size) P) mc ms (dA ad0 0 H.size))
    (cw : CallB R s args own index y bytes maxL ret ws rm mc ms na ∧ (Cond.static y).before args s = true) (hn : ([] : List Value).length = na) (hst : st0 = ([] : List Value).reverse ++ rest) (hR : (rest.map fun v => v.category).sum ≤ 8) (hdg : decode cc pc = .ok (.invokestatic index, 3)) (hf : cells + mc ≤ R.cells ∧ slots + ms ≤ R.slots)
    (kk : ∀ (H1 : Heap) (locs1 : List Loc), Wb g ad n K S A H1 → va_S A s.heap H1 locs1 → W p l e R s m args below meth c H1 locs1 (cells + mc) (slots + ms) Q (F0 m (pc + 3) ls (o.toList ++ rest))) : W p l e R s m args below meth c H locs cells slots Q (F0 m pc ls st0) := by
  have hCC := hC
  obtain ⟨hx, hb, hml, hown, hts, hK⟩ := hC
  have hd0 : ∀ q, dA ad0 0 H.size q → H.size ≤ q := fun q h => h.elim (fun ⟨i, hi, _⟩ => absurd hi (Nat.not_lt_zero _)) id
  have hdA : ∀ q, dA ad0 0 H.size q → A q := fun q h => hA q (Nat.le_trans hS.1 (hd0 q h))
  have hr := va_runS (l := l) (e := e) (below := below) (meth := meth) (H := H) (locs := locs) (cells := cells) (slots := slots) (p := p) (R := R) (g := F0 m pc ls st0) (rest := rest) (As := []) ⟨hx, hb, hml, hown, hts⟩ hM cw ⟨x_blind, fun U hU hWm => ⟨rfl, by
    refine ⟨by rw [hU], fun k q h => (by simp [wd] at h), va_K.moved hWm.alike hK, ⟨fun i j q q' h => (by simp [wd] at h), fun k q h => (by simp [wd] at h)⟩, ⟨fun f i j _ h => (by cases h), fun i k j h => (by cases h)⟩, ?_⟩
    rw [hU]
    exact GF.warm hWm ((hG.kept hS.2.1).narrow hdA)⟩⟩ rfl hn hls hst (lv_room hR) hdg hf
  intro T hT X
  obtain ⟨v, st₀, t, T', L, h0, X', hL, e1, e2, ⟨⟨ad9, K9, hv, hAg, hP, hB⟩, hz, hk⟩, st⟩ := hr T hT X
  cases hv
  rw [h0] at hz hk
  have hS1 : va_S A s.heap T'.heap (locs ++ L) := by
    refine ⟨?_, ?_, ?_⟩
    · rw [e1]; exact Nat.le_trans hS.1 hz
    · intro q hq hnq
      rw [e1, hk q (Nat.lt_of_lt_of_le hq hS.1) (fun h => hnq (hdA q h))]
      exact hS.2.1 q hq hnq
    · intro z hzz
      rcases List.mem_append.mp hzz with h | h
      · exact hS.2.2 z h
      · exact hdA _ (hL z h)
  have hB1 : Wb g ad n K S A T'.heap := hW.kept (fun q hq => by rw [e1]; exact hk q hq (fun h => absurd (hd0 q h) (Nat.not_le.mpr hq)))
  obtain ⟨t', a1, b1⟩ := kk T'.heap (locs ++ L) hB1 hS1 T' rfl X'
  exact ⟨t', st t' a1, b1⟩
end X0
