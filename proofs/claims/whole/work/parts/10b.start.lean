set_option maxHeartbeats 4000000 in
set_option maxRecDepth 100000 in
/-- the law from its entry, over the pure walk -/
theorem start_of {p : Program} {e : Env} {s : State} {m : MethodId} {below : List Frame} {meth : Method} {c : Code} (l : Launch) (hfl : l.stackTraces = false) {b L : Nat} {xs : Nat → Int32} {F : Nat} (hf : f_whole F xs L = some ()) (C0 : lw_At p s m meth c b L xs) : W p l e room_1 s m #[Value.ref b] below meth c s.heap [] 0 0 (lw_Z below #[Value.ref b] s) (entryFrame m ([Value.ref b] : List Value).toArray 9) := by
  obtain ⟨hx, hb, hr, hml, hown, htb, hX, hbl, hlocks, hgv⟩ := id C0
  obtain ⟨g, hK, hG⟩ := gf_start htb (bR hgv)
  have hl := lv_entry ([.ref b]) (n := 9) (Nat.le_of_ble_eq_true rfl)
  rw [lg_entry_eq]
  generalize (lg_sl ([.ref b]) ++ List.replicate (9 - (lg_sl ([.ref b])).length) Slot.unset).toArray = ls at hl ⊢
  have hl : lv_has ls 9 [(0, .ref b)] := hl
  have hC : Cx g p s m #[.ref b] c cL_law RL lw_tbl 9 := ⟨hx, hb, hml, hown, htb, hK⟩
  unfold f_whole at hf
  obtain ⟨⟨S9, n9, o1, o2, o3, o4⟩, hz, hf⟩ := obE hf
  refine c_lawS l hfl g (fun _ => 0) 0 (fun _ => 0) F SE hC hX hbl hG ?_ va_S.rf hl (by decide) (by decide) (by decide) (by decide) S9 n9 o1 o2 o3 o4 hz (fun ad9 K9 H1 locs1 ls1 hag t1 t2 t3 t4 hW hS hl => ?_)
  · exact ⟨fun k q h => (by simp [wd] at h), ⟨fun i j p q h => (by simp [wd] at h), fun k q h => (by simp [wd] at h)⟩, ⟨fun f i j _ h => (by cases h), fun i k j h => (by cases h)⟩⟩
  · exact c_loop l hfl g F o1 o2 o3 o4 hC hr hlocks hX hbl hG 513 0 ad9 n9 K9 S9 H1 locs1 ls1 _ _ hf hW hS t1 t2 t3 t4 hl (by decide) (by decide)
