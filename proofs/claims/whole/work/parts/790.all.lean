/-! the pure level, all of it -/
theorem pureOK : PureOK := by
  intro L xs hL
  obtain ⟨v12', v29', g14', g16', g18', s1, s2, s3⟩ := r_stands (PzSn_0 (fun _ => 0) (fun _ => 0) (fun _ => 0) (fun _ => 0) (fun _ => 0) (fun _ => 0) (fun _ => 0) (fun _ => 0) (fun _ _ => 0) (fun _ _ => 0) (fun _ _ => 0)) 0 0 0 0 0 (fun _ => 0) (fun _ => 0) (fun _ _ => 0) (fun _ _ => 0) (fun _ _ => 0)
  refine ⟨PzInv L, (0, 0, 0, 1, 3, 20, fillF (fun _ => 0) 0 0 201), (1, upd (fun _ => 0) 0 1), upd (upd (upd (upd (upd (upd (fun _ => 0) 0 0) 1 0) 2 0) 3 1) 4 3) 5 20, (0, 0, 0, 0, 0, v12', v29', g14', g16', g18'), p_forget6 _ _ _ _ _ _ _, rfl, r_tellsNothing _, s1, ?_, ?_, ?_⟩
  · intro x mo P P2
    refine ⟨fun k hk => rfl, ⟨0, 0, 20, fun _ => 0, fun _ => 0, s2, PzG_0 s3 (fun c hc => rfl) (fun d hd => rfl), ⟨0, by omega, rfl, .inl ⟨rfl, rfl, rfl⟩⟩, ⟨0, fun _ => 0, by omega, rfl, rfl, rfl, fun i j h1 h2 => by omega, fun i hi => by omega⟩, PzT.none _, ⟨0, by omega, rfl, rfl, fun j hj => by omega⟩, ⟨0, by omega, rfl, rfl, fun j _ _ i => rfl, fun j hj => by omega⟩, rfl, rfl, rfl, fun p hp => rfl⟩, Nat.zero_le L, hL, by omega, ?_⟩
    show 86124 + 2689 * (nulN (fun _ => none) 8 + nulN (fun _ => none) 8 + nulN (fun _ => none) 8) ≤ 200000 + 400 * 0
    rw [nul_none]
    omega
  · intro i C R cells slots hi h
    refine ⟨fun k hk _ => ?_, h.keep (a := 0) (b := 0) hi (by omega) (by omega) h.1⟩
    have hk' : k = 0 ∨ k = 1 ∨ k = 2 ∨ k = 3 ∨ k = 4 ∨ k = 5 ∨ k = 6 ∨ k = 7 ∨ k = 8 ∨ k = 9 ∨ k = 10 ∨ k = 11 ∨ k = 12 ∨ k = 13 ∨ k = 14 ∨ k = 15 ∨ k = 16 ∨ k = 17 ∨ k = 18 ∨ k = 19 ∨ k = 20 ∨ k = 21 ∨ k = 22 ∨ k = 23 ∨ k = 24 ∨ k = 25 ∨ k = 26 ∨ k = 27 ∨ k = 28 ∨ k = 29 ∨ k = 30 ∨ k = 31 ∨ k = 32 ∨ k = 33 ∨ k = 34 ∨ k = 35 ∨ k = 36 ∨ k = 37 ∨ k = 38 ∨ k = 39 ∨ k = 40 := by omega
    rcases hk' with rfl | rfl | rfl | rfl | rfl | rfl | rfl | rfl | rfl | rfl | rfl | rfl | rfl | rfl | rfl | rfl | rfl | rfl | rfl | rfl | rfl | rfl | rfl | rfl | rfl | rfl | rfl | rfl | rfl | rfl | rfl | rfl | rfl | rfl | rfl | rfl | rfl | rfl | rfl | rfl | rfl
    · exact q_feed h hi _ _ _ _ _
    · exact q_street h hi _
    · exact q_law h hi _
    · exact q_work h hi _
    · exact q_book h hi _
    · exact q_fault h hi
    · exact q_undo h hi
    · exact q_told h hi _
    · exact q_pane h hi _ _
    · exact q_shows h hi _ _ _
    · exact q_deep h hi _ _ _
    · exact q_film h hi _ _ _ _
    · exact q_films h hi _ _
    · exact q_have h hi _ _
    · exact q_showing h hi _ _
    · exact q_settles h hi _ _ _
    · exact q_order h hi _ _
    · exact q_needs h hi _
    · exact q_lost h hi
    · exact q_cost h hi _ _ _
    · exact q_view h hi _ _ _
    · exact q_seams h hi _
    · exact q_sights h hi _
    · exact q_alike h hi _ _
    · exact q_oldest h hi _ _
    · exact q_thick h hi
    · exact q_patch h hi _ _
    · exact q_tells h hi _
    · exact q_look h hi _ _
    · exact q_cover h hi _ _ _ _
    · exact q_game h hi _ _ _
    · exact q_round h hi _ _
    · exact q_by h hi _ _
    · exact q_share h hi _ _ _ _
    · exact q_ahead h hi _ _ _
    · exact q_decade h hi _ _ _ _
    · exact q_span h hi _ _ _ _ _ _
    · exact q_image h hi
    · exact q_restore h hi
    · exact q_status h hi _
    · exact q_count h hi _
  · intro i C R cells slots _ h
    exact h.room
