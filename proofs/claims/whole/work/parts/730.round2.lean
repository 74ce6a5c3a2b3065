/-! round -/
theorem p_walk {la al fl od : Nat → Int32} {sm fm no k : Nat} {P : Nat → Nat} {i8 f b : Int32} (hn : no ≤ 12) (hi8 : i8 = nI no) (hk : k < 4096) (hP : ∀ o, o < no → P o < 5 ∧ od (5 * o) = nI (P o)) : ∀ (m i q acc : Nat), i + m = no → m < q → f_X5_walk_b15 la i8 (nI sm) (nI fm) al fl od q f b (nI k) (nI acc) (nI i) = (f_X5_goOn 9 f b la (nI sm) (nI fm) al fl (nI (psF P k m i acc)) 0 0 0 0).bind fun q59 => some (q59.1, q59.2) := by
  intro m
  induction m with
  | zero =>
    intro i q acc hi hq
    obtain ⟨q, rfl⟩ : ∃ r, q = r + 1 := ⟨q - 1, by omega⟩
    rw [f_X5_walk_b15, if_pos (by rw [hi8]; exact nI_le (by omega) (by omega)), psF]
  | succ m ih =>
    intro i q acc hi hq
    obtain ⟨q, rfl⟩ : ∃ r, q = r + 1 := ⟨q - 1, by omega⟩
    obtain ⟨h1, h2⟩ := hP i (by omega)
    have e : f_X6_part od (nI i) 0 = some (nI (P i)) := by
      rw [pl0, p_part (by omega) (by omega), Nat.add_zero, h2]
    rw [f_X5_walk_b15, if_neg (by rw [hi8]; exact nI_ge (by omega) (by omega)), e, Option.bind_some, f_X5_walk_b46, f_X5_walk_b46, nI_1, psF]
    by_cases hb : k.testBit i = true
    · rw [if_pos (by rw [bit_if (by omega) (by omega)]; exact hb), if_pos hb, pl1, pl31, pn_shl (by omega), pz_or]
      exact ih (i + 1) q _ (by omega) (by omega)
    · rw [if_neg (by rw [bit_if (by omega) (by omega)]; exact hb), if_neg hb]
      exact ih (i + 1) q _ (by omega) (by omega)
theorem goU_some (st : Option (Nat × Nat)) (mi rw : Nat) : (goU st mi rw).isSome = true := by
  cases st with
  | none => rfl
  | some kr =>
    obtain ⟨k, r⟩ := kr
    show (if k ≤ mi then some (k, r) else some (mi, rw)).isSome = true
    by_cases h : k ≤ mi
    · rw [if_pos h]
      rfl
    · rw [if_neg h]
      rfl
theorem goS_some {A F : Nat → Nat} {sm fm : Nat} : ∀ (n : Nat) (st : Option (Nat × Nat)) (L x y mi rw : Nat), L < 32 → pc5 L ≤ n → (goS (fun _ _ => true) A F sm fm n st L x y mi rw).isSome = true := by
  intro n
  induction n with
  | zero =>
    intro st L x y mi rw h1 h2
    have hL := pc5_0 L h1 (by omega)
    rw [goS, if_pos hL]
    exact goU_some _ _ _
  | succ n ih =>
    intro st L x y mi rw h1 h2
    rw [goS]
    by_cases hL : L = 0
    · rw [if_pos hL]
      exact goU_some _ _ _
    · rw [if_neg hL]
      have hloop : ∀ m i (st : Option (Nat × Nat)), i + m = 5 → (st.isSome = true ∨ ∃ j, i ≤ j ∧ j < 5 ∧ L.testBit j = true) → (goL (goS (fun _ _ => true) A F sm fm n) (fun _ _ => true) A F sm fm L x y mi rw m i st).isSome = true := by
        intro m
        induction m with
        | zero =>
          intro i st hi h
          rw [goL]
          rcases h with h | ⟨j, h3, h4, -⟩
          · exact h
          · omega
        | succ m ihm =>
          intro i st hi h
          rw [goL, Bool.and_true]
          by_cases hb : L.testBit i = true
          · obtain ⟨m1, m2⟩ := mnL_ok L h1 i (by omega) hb
            rw [if_pos hb]
            exact ihm (i + 1) _ (by omega) (.inl (ih _ _ _ _ _ _ m1 (by omega)))
          · rw [if_neg hb]
            refine ihm (i + 1) st (by omega) ?_
            rcases h with h | ⟨j, h3, h4, h5⟩
            · exact .inl h
            · refine .inr ⟨j, ?_, h4, h5⟩
              by_cases e : j = i
              · subst e
                exact absurd h5 hb
              · omega
      apply hloop 5 0 st (by omega)
      right
      rcases L_bit L h1 hL with h | h | h | h | h
      · exact ⟨0, by omega, by omega, h⟩
      · exact ⟨1, by omega, by omega, h⟩
      · exact ⟨2, by omega, by omega, h⟩
      · exact ⟨3, by omega, by omega, h⟩
      · exact ⟨4, by omega, by omega, h⟩
theorem psF_bits {P : Nat → Nat} {k no np : Nat} (hP : ∀ o, o < no → P o < np) : ∀ j, (psF P k no 0 0).testBit j = true → j < np := by
  intro j hj
  rw [psF_tb] at hj
  rcases hj with h | ⟨o, -, h2, h3, h4⟩
  · rw [Nat.zero_testBit] at h
    cases h
  · rw [← h4]
    exact hP o (by omega)
theorem psF_32 {P : Nat → Nat} {k no np : Nat} (hn : np ≤ 5) (hP : ∀ o, o < no → P o < np) : psF P k no 0 0 < 32 := by
  have h1 := psF_lt P k np no 0 0 (fun j _ h2 => hP j (by omega)) (Nat.pow_pos (by omega))
  have h2 : 2 ^ np ≤ 2 ^ 5 := Nat.pow_le_pow_right (by omega) hn
  omega
theorem a_round {C : CS} {R : RS} (hc : PzC C R) (x1 x2 : Int32) :
    (∃ r z0 z1 z2 y0 y1, fC_round C x1 x2 = some (0, r, C.v15, z0, z1, z2) ∧ fR_round R x1 x2 = some (r, 0, y0, y1, R.v10)) ∨
    (∃ z0 z1 z2 y0 y1, fC_round C x1 x2 = some (1, 0, upd C.v15 2 (C.v15 2 + 1), z0, z1, z2) ∧ fR_round R x1 x2 = some (0, 1, y0, y1, upd R.v10 2 (R.v10 2 + 1))) := by
  obtain ⟨np, no, hd, W, H, hS, ⟨dp, fd, dy, hG⟩, -⟩ := hc
  rcases pz_orders hS C.v15 x1 with ⟨h1, h2⟩ | ⟨k, hk, hk2, rfl, h1, h2⟩
  · exact .inr ⟨C.r.1, C.r.2.1, C.r.2.2, R.i41, R.i42, by simp -implicitDefEqProofs only [Option.bind_some, pz10, if_true, if_false, eq_self, ↓reduceIte, r_bad0, r_A1, r_A2, r_B1, r_B2, r_B3, r_C1, fC_round, f_X10_round, h1]; rfl, by simp -implicitDefEqProofs only [Option.bind_some, pz10, if_true, if_false, eq_self, ↓reduceIte, r_bad0, r_A1, r_A2, r_B1, r_B2, r_B3, r_C1, fR_round, f_X11_round, h2, f_X11_round_b23, f_X11_round_b28]⟩
  · rcases pz_what C.v15 x2 1 (by omega) with ⟨h3, h4⟩ | ⟨a, ha, rfl, h3, h4⟩
    · rw [← pl1] at h3 h4
      exact .inr ⟨C.r.1, C.r.2.1, C.r.2.2, R.i41, R.i42, by simp -implicitDefEqProofs only [Option.bind_some, pz10, if_true, if_false, eq_self, ↓reduceIte, r_bad0, r_A1, r_A2, r_B1, r_B2, r_B3, r_C1, fC_round, f_X10_round, h1, h3]; rfl, by simp -implicitDefEqProofs only [Option.bind_some, pz10, if_true, if_false, eq_self, ↓reduceIte, r_bad0, r_A1, r_A2, r_B1, r_B2, r_B3, r_C1, fR_round, f_X11_round, h2, f_X11_round_b23, f_X11_round_b28, h4]⟩
    · rw [← pl1] at h3 h4
      obtain ⟨A, F, hAF⟩ := hS.fn
      obtain ⟨P, U, hPU⟩ := hS.fo
      obtain ⟨h5, h12, -, ⟨-, t0⟩, ⟨s8, t1⟩, -, ⟨sm, hsm9, s10, t3⟩, ⟨fm, hfm9, s11, t4⟩, -⟩ := hS
      have hL := psF_32 (k := k) h5 (fun o ho => (hPU o ho).1)
      have hLb := psF_bits (k := k) (fun o ho => (hPU o ho).1)
      have hpc := pc5_le _ hL
      obtain ⟨f1, b1, e1, e2⟩ := p_go (la := fillF C.r.2.2 1000000 0 5) (al := C.s1.2.2.2.2.2.2.2.2.1) (fl := C.s1.2.2.2.2.2.2.2.2.2.1) (ok := fun _ _ => true) h5 hsm9 hfm9 (fun p hp => by
        obtain ⟨a1, a2, a3, a4, a5, a6⟩ := hAF p hp
        exact ⟨a1, a2, a3, a5⟩) (fun p t hp ht => by
        rw [fillF, if_pos (by omega), pl1000000]
        exact ⟨fun _ => nI_nlt (by omega) (by omega), fun _ => rfl⟩) 5 9 none (-1) 0 (psF P k no 0 0) 0 0 0 0 (by omega) hL hpc hLb (by omega) (by omega) (by omega) rfl
      obtain ⟨f2, b2, e3, e4⟩ := r_go (A := A) (F := F) (pa := R.g14) h5 hsm9 hfm9 t0 t3 t4 (fun p hp => by
        obtain ⟨a1, a2, a3, a4, a5, a6⟩ := hAF p hp
        exact ⟨a1, a2, a4, a6⟩) 5 9 none (-1) R.i42 (-1) (psF P k no 0 0) 0 0 0 0 (by omega) hL hpc hLb (by omega) (by omega) (.inl ⟨rfl, rfl, rfl⟩) (by omega) rfl
      have hsome := goS_some (A := A) (F := F) (sm := sm) (fm := fm) 5 none (psF P k no 0 0) 0 0 0 0 hL hpc
      obtain ⟨⟨kf, kr⟩, hkr⟩ := Option.isSome_iff_exists.mp hsome
      rw [hkr] at e2 e4
      obtain ⟨g1, g2, -⟩ := e2
      obtain ⟨g3, g4, -⟩ := e4
      subst g1 g2 g3 g4
      have w1 := p_walk (la := fillF C.r.2.2 1000000 0 5) (al := C.s1.2.2.2.2.2.2.2.2.1) (fl := C.s1.2.2.2.2.2.2.2.2.2.1) (sm := sm) (fm := fm) (f := -1) (b := 0) h12 s8 hk2 (fun o ho => by
        obtain ⟨a1, a2, a3, -⟩ := hPU o ho
        exact ⟨by omega, a3⟩) no 0 4000 0 (by omega) (by omega)
      have w2 := r_panesOf (od := R.g18) h12 t1 hk2 (fun o ho => by
        obtain ⟨a1, a2, a3, a4, -⟩ := hPU o ho
        exact ⟨by omega, a4⟩) no 0 4000 0 (by omega) (by omega)
      rw [← pl0] at w1 w2 e1 e3
      rw [← s10, ← s11] at w1 e1
      rw [e1] at w1
      refine .inl ⟨if nI a = 0 then nI kf else nI kr, nI kf, nI kr, fillF C.r.2.2 1000000 0 5, nI kf, nI kr, ?_, ?_⟩
      · simp -implicitDefEqProofs only [Option.bind_some, pz10, if_true, if_false, eq_self, ↓reduceIte, r_bad0, r_A1, r_A2, r_B1, r_B2, r_B3, r_C1, fC_round, f_X10_round, h1, h3, f_X5_walkFreely, f_X5_walk]
        rw [p_fill (by omega), Option.bind_some, w1]
        simp -implicitDefEqProofs only [Option.bind_some, pz10, if_true, if_false, eq_self, ↓reduceIte, r_bad0, r_A1, r_A2, r_B1, r_B2, r_B3, r_C1]
        by_cases h0 : nI a = 0
        · rw [if_pos h0, if_pos h0]
        · rw [if_neg h0, if_neg h0]
      · simp -implicitDefEqProofs only [Option.bind_some, pz10, if_true, if_false, eq_self, ↓reduceIte, r_bad0, r_A1, r_A2, r_B1, r_B2, r_B3, r_C1, fR_round, f_X11_round, h2, f_X11_round_b28, h4, f_X11_panesOf, w2, e3]
        by_cases h0 : nI a = 0
        · rw [if_pos h0, if_pos h0]
        · rw [if_neg h0, if_neg h0]
theorem q_round {L i : Nat} {C : CS} {R : RS} {cells slots : Nat} (h : PzInv L i C R cells slots) (hi : i + 7 ≤ L) (x1 x2 : Int32) : pS_round (PzInv L (i + 7)) C R x1 x2 cells slots := by
  rcases a_round h.2.1 x1 x2 with ⟨r, z0, z1, z2, y0, y1, h1, h2⟩ | ⟨z0, z1, z2, y0, y1, h1, h2⟩
  · exact ⟨(0, r, C.v15, z0, z1, z2), (r, 0, y0, y1, R.v10), h1, h2, .inl rfl, rfl, fun _ => rfl, pz_fit h (by omega) (by omega), h.keep hi (by omega) (by omega) h.1⟩
  · exact ⟨(1, 0, upd C.v15 2 (C.v15 2 + 1), z0, z1, z2), (0, 1, y0, y1, upd R.v10 2 (R.v10 2 + 1)), h1, h2, .inr rfl, rfl, fun _ => rfl, pz_fit h (by omega) (by omega), h.keep hi (by omega) (by omega) h.1.up⟩
