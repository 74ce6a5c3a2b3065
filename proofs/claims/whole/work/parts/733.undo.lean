/-! undo -/
theorem pzRag_ext {r r' : Nat → Int32} : ∀ n, (∀ k, k < n → r' (2480 + k) = r (2480 + k)) → pzRag r' n = pzRag r n := by
  intro n
  induction n with
  | zero =>
    intro h
    rfl
  | succ n ih =>
    intro h
    rw [pzRag, pzRag, ih (fun k hk => h k (by omega)), h n (by omega)]
theorem PzGX.cong {np hd : Nat} {W H : Nat → Nat} {G G' : GC} {row row' : Nat → Int32} (h : PzGX np hd W H G row) (h30 : hd ≤ 30) (hr : ∀ j, j < 2685 → row' j = row j) (h0 : G'.1 = G.1) (h1 : G'.2.1 = G.2.1) (h2 : G'.2.2.1 = G.2.2.1) (h3 : G'.2.2.2.1 = G.2.2.2.1) (h4 : G'.2.2.2.2.1 = G.2.2.2.2.1) (h5 : ∀ j, j < 2400 → G'.2.2.2.2.2.1 j = G.2.2.2.2.2.1 j) (h6 : ∀ j, j < 80 → G'.2.2.2.2.2.2.1 j = G.2.2.2.2.2.2.1 j) (h7 : ∀ j, j < 201 → G'.2.2.2.2.2.2.2 j = G.2.2.2.2.2.2.2 j) : PzGX np hd W H G' row' := by
  obtain ⟨dp, fd, dy, a1, a2, ⟨a3, a4, a5⟩, a6, a7, a8, a9, b, a10, a11, a12, a13⟩ := h
  refine ⟨dp, fd, dy, fun c hc => ?_, fun c hc j hj => ?_, ⟨a3, by rw [h1]; exact a4, by rw [hr _ (by omega)]; exact a5⟩, fun d hd2 => ?_, ?_, ?_, ?_, b, a10, by rw [h3]; exact a11, by rw [hr _ (by omega)]; exact a12, a13⟩
  · obtain ⟨b1, b2, b3, b4⟩ := a1 c hc
    exact ⟨b1, by rw [h6 c hc]; exact b2, by rw [hr _ (by omega)]; exact b3, b4⟩
  · obtain ⟨b1, b2, b3⟩ := a2 c hc j hj
    have b4 := (a1 c hc).1
    exact ⟨by rw [h5 _ (by omega)]; exact b1, by rw [hr _ (by omega)]; exact b2, b3⟩
  · rw [h7 d (by omega), hr _ (by omega)]
    exact a6 d hd2
  · rw [h0, a7]
    exact (pzRag_ext 201 (fun k hk => hr _ (by omega))).symm
  · rw [h2, hr _ (by omega)]
    exact a8
  · rw [h4, hr _ (by omega)]
    exact a9
theorem PzGX.cp {np hd : Nat} {W H : Nat → Nat} {G : GC} {row row' : Nat → Int32} (h : PzGX np hd W H G row) (h30 : hd ≤ 30) (g0 : GC) (hr : ∀ j, j < 2685 → row' j = row j) : PzGX np hd W H (g_cp g0 G) row' := by
  refine h.cong h30 hr rfl rfl rfl rfl rfl (fun j hj => ?_) (fun j hj => ?_) (fun j hj => ?_)
  · show va_cpy _ _ 0 0 2400 j = _
    rw [va_cpy, if_pos (by omega), Nat.zero_add, Nat.sub_zero]
  · show va_cpy _ _ 0 0 80 j = _
    rw [va_cpy, if_pos (by omega), Nat.zero_add, Nat.sub_zero]
  · show va_cpy _ _ 0 0 201 j = _
    rw [va_cpy, if_pos (by omega), Nat.zero_add, Nat.sub_zero]
theorem r_copies_b {v0 : Nat → Int32} : ∀ (m i q : Nat) (v1 : Nat → Int32), i + m = 2685 → m < q → ∃ v', f_X11_copies_b2 2685 v0 2685 q v1 (nI i) = some v' ∧ ∀ j, v' j = if i ≤ j ∧ j < 2685 then v0 j else v1 j := by
  intro m
  induction m with
  | zero =>
    intro i q v1 hi hq
    obtain ⟨q, rfl⟩ : ∃ r, q = r + 1 := ⟨q - 1, by omega⟩
    refine ⟨v1, ?_, fun j => by rw [if_neg (by omega)]⟩
    rw [f_X11_copies_b2, pl2685, if_pos (nI_le (by omega) (by omega))]
  | succ m ih =>
    intro i q v1 hi hq
    obtain ⟨q, rfl⟩ : ∃ r, q = r + 1 := ⟨q - 1, by omega⟩
    obtain ⟨v', h1, h2⟩ := ih (i + 1) q (upd v1 i (v0 i)) (by omega) (by omega)
    refine ⟨v', ?_, fun j => ?_⟩
    · rw [f_X11_copies_b2, pl2685, if_neg (nI_ge (by omega) (by omega)), pu_ck (by omega) (by omega), pu_ck (by omega) (by omega), nI_clamp (by omega), nI_1]
      exact h1
    · rw [h2 j, upd]
      by_cases e : j = i
      · rw [if_neg (by omega), if_pos e, if_pos (by omega), e]
      · rw [if_neg e]
        by_cases e2 : i ≤ j ∧ j < 2685
        · rw [if_pos (by omega), if_pos e2]
        · rw [if_neg (by omega), if_neg e2]
theorem r_copies (v0 v1 : Nat → Int32) : ∃ v', f_X11_copies 2685 v0 2685 v1 = some v' ∧ ∀ j, j < 2685 → v' j = v0 j := by
  obtain ⟨v', h1, h2⟩ := r_copies_b (v0 := v0) 2685 0 4000 v1 (by omega) (by omega)
  rw [← pl0] at h1
  exact ⟨v', h1, fun j hj => by rw [h2 j, if_pos (by omega)]⟩
theorem q_undo {L i : Nat} {C : CS} {R : RS} {cells slots : Nat} (h : PzInv L i C R cells slots) (hi : i + 7 ≤ L) : pS_undo (PzInv L (i + 7)) C R cells slots := by
  obtain ⟨np, no, hd, W, H, hS, hG, hL, hB, hT, ⟨k, hk, hk1, hk2, hk3⟩, hI, hrs, hp1, hp2⟩ := id h.2.1
  have hkeep := h.keep (a := 0) (b := 0) hi (by omega) (by omega) h.1
  cases k with
  | zero =>
    left
    refine ⟨(-1, 0, R.i34, R.i35, R.v29), hk1, ?_, rfl, pz_fit h (by omega) (by omega), hkeep⟩
    show f_X11_undo _ _ _ _ _ = _
    rw [f_X11_undo, if_pos (by rw [hk2]; rfl)]
  | succ k =>
    right
    obtain ⟨b1, b2⟩ := hk3 k (by omega)
    obtain ⟨b, hb⟩ := Option.isSome_iff_exists.mp b1
    obtain ⟨v', e1, e2⟩ := r_copies (R.g31 k) R.v29
    refine ⟨k, b, (nI k, 0, nI k, 0, v'), by omega, hk1, hb, ?_, rfl, pz_fit h (by omega) (by omega), hkeep.1, ⟨np, no, hd, W, H, hS, b2.cp hS.2.2.1.2 C.n e2, hL, hB, hT, ⟨k, by omega, rfl, rfl, fun j hj => hk3 j (by omega)⟩, hI, rfl, hp1, hp2⟩, hkeep.2.2⟩
    show f_X11_undo _ _ _ _ _ = _
    rw [f_X11_undo, hk2, if_neg (nI_ne0 (by omega) (by omega)), nI_pred, pu_ck (by omega) (by omega), nI_clamp (by omega), e1]
    rfl
