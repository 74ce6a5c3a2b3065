/-! queries of one cell -/
theorem q_fault {L i : Nat} {C : CS} {R : RS} {cells slots : Nat} (h : PzInv L i C R cells slots) (hi : i + 7 ≤ L) : pS_fault (PzInv L (i + 7)) C R cells slots := by
  have hc := h.2.1
  obtain ⟨np, no, hd, W, H, hS, hG, hL, hB, ⟨n, h1, h2, h3, h4, h5⟩, -⟩ := hc
  exact ⟨C.t.2.2.2.2.2.2.2.1, (R.i3, 0), rfl, rfl, h4, pz_fit h (by omega) (by omega), h.keep hi (by omega) (by omega) h.1⟩
theorem p_countV (C : CS) (x : Int32) : fC_count C x = some (if x = 0 then C.i13 else if x = 1 then C.t.1 else if x = 2 then C.i2 else -1) := by
  simp only [fC_count, f_X10_count]
  by_cases h0 : x = 0
  · simp only [h0, ↓reduceIte]
  · simp only [h0, ↓reduceIte]
    by_cases h1 : x = 1
    · simp only [h1, ↓reduceIte]
    · simp only [h1, ↓reduceIte]
      by_cases h2 : x = 2
      · simp only [h2, ↓reduceIte]
      · simp only [h2, ↓reduceIte]
theorem r_countV (R : RS) (x : Int32) : fR_count R x = some (if x = 0 then R.i36 else if x = 1 then R.i1 else if x = 2 then R.i34 else -1, 0) := by
  simp only [fR_count, f_X11_count]
  by_cases h0 : x = 0
  · simp only [h0, ↓reduceIte]
  · simp only [h0, ↓reduceIte]
    by_cases h1 : x = 1
    · simp only [h1, ↓reduceIte]
    · simp only [h1, ↓reduceIte]
      by_cases h2 : x = 2
      · simp only [h2, ↓reduceIte]
      · simp only [h2, ↓reduceIte]
theorem q_count {L i : Nat} {C : CS} {R : RS} {cells slots : Nat} (h : PzInv L i C R cells slots) (hi : i + 7 ≤ L) (x : Int32) : pS_count (PzInv L (i + 7)) C R x cells slots := by
  have hc := h.2.1
  obtain ⟨np, no, hd, W, H, hS, hG, hL, hB, ⟨n, h1, h2, h3, h4, h5⟩, ⟨k, g1, g2, g3, g4⟩, ⟨m, e1, e2, e3, e4⟩, -⟩ := hc
  refine ⟨_, _, p_countV C x, r_countV R x, ?_, pz_fit h (by omega) (by omega), h.keep hi (by omega) (by omega) h.1⟩
  dsimp only
  rw [h2, h3, g2, g3, e2, e3]
theorem q_status {L i : Nat} {C : CS} {R : RS} {cells slots : Nat} (h : PzInv L i C R cells slots) (hi : i + 7 ≤ L) (x : Int32) : pS_status (PzInv L (i + 7)) C R x cells slots := by
  rcases pz_ix2 x (n := 2) (by omega) with hb | ⟨k, hk, rfl⟩
  · refine ⟨-1, (-1, 0), ?_, ?_, rfl, pz_fit h (by omega) (by omega), h.keep hi (by omega) (by omega) h.1⟩
    · show f_X10_status _ _ = _
      rw [f_X10_status]
      by_cases h0 : x < 0
      · rw [if_pos h0]
      · rw [if_neg h0]
        rcases hb with hb | hb
        · exact absurd hb h0
        · rw [pl2, if_pos hb]
    · show f_X11_status _ _ _ = _
      rw [f_X11_status, pl2, r_inNo hb]
      rfl
  · refine ⟨C.v15 k, (R.v10 k, 0), ?_, ?_, h.1 k (by omega), pz_fit h (by omega) (by omega), h.keep hi (by omega) (by omega) h.1⟩
    · show f_X10_status _ _ = _
      rw [f_X10_status]
      simp -implicitDefEqProofs (disch := omega) only [pl0, pl1, pl2, pl3, pl4, pl5, pl6, pl7, pl8, pl9, pl10, pl11, pl12, pl13, pl14, pl15, pl16, pl17, pl18, pl19, pl20, pl21, pl22, pl23, pl24, pl25, pl26, pl27, pl28, pl29, pl30, pl31, pl32, pl48, pl57, pl60, pl61, pl80, pl97, pl99, pl100, pl122, pl150, pl160, pl199, pl200, pl201, pl255, pl305, pl600, pl999, pl1000, pl2400, pl2480, pl2681, pl2682, pl2683, pl2684, pl2685, pl9999, pl100000, pl1000000, pk_mul, nI_add, pk_sub, nI_clamp, nI_eq, nI_leI, nI_ltI, pk_div, pn_rem, pu_ck, Option.bind_some, if_pos, if_neg, and_true, true_and, if_true, if_false]
    · show f_X11_status _ _ _ = _
      rw [f_X11_status, pl0, pl2, r_inOk (by omega) (by omega) (by omega)]
      rw [Option.bind_some, if_neg (by decide), pu_ck (by omega) (by omega), nI_clamp (by omega)]
/-- what is known of a call with a cell -/
theorem pz_cell {np no hd : Nat} {W H : Nat → Nat} {s : CX6} {to : Nat → Int32} {pa ra od : Nat → Nat → Int32} (hS : PzS np no hd W H s to pa ra od) (v w : Nat → Int32) (x1 x2 x3 : Int32) :
    (f_X10_needCell v s.1 s.2.2.2.2.2.2.1 s.2.2.2.2.2.2.2.1 x1 x2 x3 = some (2, 0, upd v 1 (v 1 + 1)) ∧ f_X11_noCell 0 w to pa x1 x2 x3 = some (1, 2, upd w 1 (w 1 + 1))) ∨
    (f_X10_needCell v s.1 s.2.2.2.2.2.2.1 s.2.2.2.2.2.2.2.1 x1 x2 x3 = some (3, 0, upd v 0 (v 0 + 1)) ∧ f_X11_noCell 0 w to pa x1 x2 x3 = some (1, 1, upd w 0 (w 0 + 1))) ∨
    ∃ p x y, p < np ∧ x < W p ∧ y < H p ∧ W p ≤ 4 ∧ H p ≤ 4 ∧ x1 = nI p ∧ x2 = nI x ∧ x3 = nI y ∧ f_X10_needCell v s.1 s.2.2.2.2.2.2.1 s.2.2.2.2.2.2.2.1 x1 x2 x3 = some (0, nI (16 * p + 4 * y + x), v) ∧ f_X11_noCell 0 w to pa x1 x2 x3 = some (0, 0, w) := by
  obtain ⟨h5, h12, -, ⟨hp1, hp2⟩, -, -, -, -, -, hPN, -⟩ := hS
  rw [hp1]
  rcases pz_ix x1 (n := np) (by omega) with hb | ⟨p, hp, rfl⟩
  · exact .inl ⟨p_cellNoP hb, r_noCellNoP hp2 h5 hb⟩
  · obtain ⟨⟨w1, w4⟩, ⟨h1, h4⟩, e1, e2, e3, e4, -⟩ := hPN p hp
    rcases pz_ix x2 (n := W p) (by omega) with hb | ⟨x, hx, rfl⟩
    · exact .inr (.inl ⟨p_cellNoC hp h5 e1 e3 (.inl hb), r_noCellNoC hp2 h5 hp e2 e4 w4 h4 (.inl hb)⟩)
    · rcases pz_ix x3 (n := H p) (by omega) with hb | ⟨y, hy, rfl⟩
      · exact .inr (.inl ⟨p_cellNoC hp h5 e1 e3 (.inr hb), r_noCellNoC hp2 h5 hp e2 e4 w4 h4 (.inr hb)⟩)
      · exact .inr (.inr ⟨p, x, y, hp, hx, hy, w4, h4, rfl, rfl, rfl, p_cellOk hp h5 e1 e3 hx hy w4 h4, r_noCellOk hp2 h5 hp e2 e4 w4 h4 hx hy⟩)
theorem a_shows {C : CS} {R : RS} (hc : PzC C R) (x1 x2 x3 : Int32) :
    (∃ r, fC_shows C x1 x2 x3 = some (0, r, C.v15) ∧ fR_shows R x1 x2 x3 = some (r, 0, R.v10)) ∨
    (fC_shows C x1 x2 x3 = some (2, 0, upd C.v15 1 (C.v15 1 + 1)) ∧ fR_shows R x1 x2 x3 = some (0, 2, upd R.v10 1 (R.v10 1 + 1))) ∨
    (fC_shows C x1 x2 x3 = some (3, 0, upd C.v15 0 (C.v15 0 + 1)) ∧ fR_shows R x1 x2 x3 = some (0, 1, upd R.v10 0 (R.v10 0 + 1))) := by
  obtain ⟨np, no, hd, W, H, hS, ⟨dp, fd, dy, hG⟩, -⟩ := hc
  have h5 := hS.1
  have h30 := hS.2.2.1.2
  rcases pz_cell hS C.v15 R.v10 x1 x2 x3 with ⟨h1, h2⟩ | ⟨h1, h2⟩ | ⟨p, x, y, hp, hx, hy, w4, h4, rfl, rfl, rfl, h1, h2⟩
  · exact .inr (.inl ⟨by simp -implicitDefEqProofs only [Option.bind_some, pz10, if_true, if_false, eq_self, ↓reduceIte, r_bad0, r_A1, r_A2, r_B1, r_B2, r_B3, r_C1, fC_shows, f_X10_shows, h1]; rfl, by simp -implicitDefEqProofs only [Option.bind_some, pz10, if_true, if_false, eq_self, ↓reduceIte, r_bad0, r_A1, r_A2, r_B1, r_B2, r_B3, r_C1, fR_shows, f_X11_shows, h2]⟩)
  · exact .inr (.inr ⟨by simp -implicitDefEqProofs only [Option.bind_some, pz10, if_true, if_false, eq_self, ↓reduceIte, r_bad0, r_A1, r_A2, r_B1, r_B2, r_B3, r_C1, fC_shows, f_X10_shows, h1]; rfl, by simp -implicitDefEqProofs only [Option.bind_some, pz10, if_true, if_false, eq_self, ↓reduceIte, r_bad0, r_A1, r_A2, r_B1, r_B2, r_B3, r_C1, fR_shows, f_X11_shows, h2]⟩)
  · refine .inl ⟨nI (bhn dp fd (16 * p + 4 * y + x) 0), ?_, ?_⟩
    · simp -implicitDefEqProofs only [Option.bind_some, pz10, if_true, if_false, eq_self, ↓reduceIte, r_bad0, r_A1, r_A2, r_B1, r_B2, r_B3, r_C1, fC_shows, f_X10_shows, h1, p_shownG hG h30 (c := 16 * p + 4 * y + x) (by omega)]
    · simp -implicitDefEqProofs only [Option.bind_some, pz10, if_true, if_false, eq_self, ↓reduceIte, r_bad0, r_A1, r_A2, r_B1, r_B2, r_B3, r_C1, fR_shows, f_X11_shows, h2, f_X11_cellOf]
      rw [show (16 : Int32) * nI p + 4 * nI y + nI x = nI (16 * p + 4 * y + x) by simp -implicitDefEqProofs (disch := omega) only [pl0, pl1, pl2, pl3, pl4, pl5, pl6, pl7, pl8, pl9, pl10, pl11, pl12, pl13, pl14, pl15, pl16, pl17, pl18, pl19, pl20, pl21, pl22, pl23, pl24, pl25, pl26, pl27, pl28, pl29, pl30, pl31, pl32, pl48, pl57, pl60, pl61, pl80, pl97, pl99, pl100, pl122, pl150, pl160, pl199, pl200, pl201, pl255, pl305, pl600, pl999, pl1000, pl2400, pl2480, pl2681, pl2682, pl2683, pl2684, pl2685, pl9999, pl100000, pl1000000, pk_mul, nI_add, pk_sub, nI_clamp, nI_eq, nI_leI, nI_ltI, pk_div, pn_rem, pu_ck, Option.bind_some, if_pos, if_neg, and_true, true_and, if_true, if_false], pl0, r_filmG hG h30 (by omega) (by omega)]
      rfl
theorem q_shows {L i : Nat} {C : CS} {R : RS} {cells slots : Nat} (h : PzInv L i C R cells slots) (hi : i + 7 ≤ L) (x1 x2 x3 : Int32) : pS_shows (PzInv L (i + 7)) C R x1 x2 x3 cells slots := by
  rcases a_shows h.2.1 x1 x2 x3 with ⟨r, h1, h2⟩ | ⟨h1, h2⟩ | ⟨h1, h2⟩
  · exact ⟨(0, r, C.v15), (r, 0, R.v10), h1, h2, .inl rfl, rfl, fun _ => rfl, pz_fit h (by omega) (by omega), h.keep hi (by omega) (by omega) h.1⟩
  · exact ⟨(2, 0, upd C.v15 1 (C.v15 1 + 1)), (0, 2, upd R.v10 1 (R.v10 1 + 1)), h1, h2, .inr (.inr rfl), rfl, fun _ => rfl, pz_fit h (by omega) (by omega), h.keep hi (by omega) (by omega) h.1.up⟩
  · exact ⟨(3, 0, upd C.v15 0 (C.v15 0 + 1)), (0, 1, upd R.v10 0 (R.v10 0 + 1)), h1, h2, .inr (.inl rfl), rfl, fun _ => rfl, pz_fit h (by omega) (by omega), h.keep hi (by omega) (by omega) h.1.up⟩
