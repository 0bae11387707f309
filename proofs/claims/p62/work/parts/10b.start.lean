set_option maxHeartbeats 4000000 in
/-- the law from its entry, over the pure walk -/
theorem start_of {p : Program} {e : Env} {s : State} {m : MethodId} {below : List Frame} {meth : Method} {c : Code} (l : Launch) {b L : Nat} {xs : Nat → Int32} {F : Nat} {S9 : St} {n9 : Nat} (hf : f_L_law F SE 0 (xs, L) = some (1, S9, n9)) (C0 : lw_At p s m meth c b L xs) : W p l e room_1 s m #[Value.ref b] below meth c s.heap [] 0 0 (lw_Z below #[Value.ref b] s) (entryFrame m ([Value.ref b] : List Value).toArray 14) := by
  obtain ⟨hx, hb, hr, hml, hown, htb, hX, hbl, hlocks, hgv⟩ := id C0
  obtain ⟨g, hK, hG, e1, e2⟩ := gf_start htb (bR hgv) hX hbl
  subst e1
  have hA : (fun q : Nat => s.heap.size ≤ q) = dA (fun _ => 0) 0 s.heap.size := funext fun q => propext ⟨Or.inr, fun h => h.elim (fun ⟨i, hi, _⟩ => absurd hi (Nat.not_lt_zero _)) id⟩
  rw [hA] at hG
  exact c_law l g (fun _ => 0) 0 (fun _ => 0) F SE (xs, L) e2.symm rfl S9 n9 hf ⟨hx, hb, hml, hown, fun w hw => lw_up_ok htb w (wsL_law_in w hw), hK⟩ hG ⟨fun k q h => (by simp [wd] at h), ⟨fun i j p q h => (by simp [wd] at h), fun k q h => (by simp [wd] at h)⟩, ⟨fun f i j _ h => (by cases h), fun i k j h => (by cases h)⟩⟩ hr hlocks
