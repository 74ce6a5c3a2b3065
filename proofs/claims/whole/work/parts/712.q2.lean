/-! queries: deep, film, told, pane -/
theorem pz_pane {np no hd : Nat} {W H : Nat → Nat} {s : CX6} {to : Nat → Int32} {pa ra od : Nat → Nat → Int32} (hS : PzS np no hd W H s to pa ra od) (v : Nat → Int32) (x : Int32) :
    (f_X10_needPane v s.1 x = some (2, upd v 1 (v 1 + 1)) ∧ f_X11_isPane to x = some 0) ∨ ∃ p, p < np ∧ p < 5 ∧ x = nI p ∧ f_X10_needPane v s.1 x = some (0, v) ∧ f_X11_isPane to x = some 1 := by
  obtain ⟨h5, h12, -, ⟨hp1, hp2⟩, -⟩ := hS
  rw [hp1]
  rcases pz_ix x (n := np) (by omega) with hb | ⟨p, hp, rfl⟩
  · exact .inl ⟨p_paneNo hb, r_isPaneNo hp2 h5 hb⟩
  · exact .inr ⟨p, hp, by omega, rfl, p_paneOk hp h5, r_isPaneOk hp2 hp h5⟩
theorem pz_order {np no hd : Nat} {W H : Nat → Nat} {s : CX6} {to : Nat → Int32} {pa ra od : Nat → Nat → Int32} (hS : PzS np no hd W H s to pa ra od) (v : Nat → Int32) (x : Int32) :
    (f_X10_needOrder v s.2.2.1 x = some (2, upd v 1 (v 1 + 1)) ∧ f_X11_isOrder to x = some 0) ∨ ∃ p, p < no ∧ p < 12 ∧ x = nI p ∧ f_X10_needOrder v s.2.2.1 x = some (0, v) ∧ f_X11_isOrder to x = some 1 := by
  obtain ⟨h5, h12, -, -, ⟨hp1, hp2⟩, -⟩ := hS
  rw [hp1]
  rcases pz_ix x (n := no) (by omega) with hb | ⟨p, hp, rfl⟩
  · exact .inl ⟨p_orderNo hb, r_isOrderNo hp2 h12 hb⟩
  · exact .inr ⟨p, hp, by omega, rfl, p_orderOk hp h12, r_isOrderOk hp2 hp h12⟩
theorem pz_what (v : Nat → Int32) (x : Int32) (k : Nat) (hk : k < 100) :
    (f_X10_needWhat v x (nI k) = some (1, upd v 2 (v 2 + 1)) ∧ f_X11_in x 0 (nI k) = some 0) ∨ ∃ a, a ≤ k ∧ x = nI a ∧ f_X10_needWhat v x (nI k) = some (0, v) ∧ f_X11_in x 0 (nI k) = some 1 := by
  rcases pz_ix2 x (n := k) (by omega) with hb | ⟨a, ha, rfl⟩
  · exact .inl ⟨p_whatNo hb, r_inNo hb⟩
  · exact .inr ⟨a, ha, rfl, p_whatOk ha hk, by rw [pl0]; exact r_inOk (by omega) ha (by omega)⟩
theorem a_deep {C : CS} {R : RS} (hc : PzC C R) (x1 x2 x3 : Int32) :
    (∃ r, fC_deep C x1 x2 x3 = some (0, r, C.v15) ∧ fR_deep R x1 x2 x3 = some (r, 0, R.v10)) ∨
    (fC_deep C x1 x2 x3 = some (2, 0, upd C.v15 1 (C.v15 1 + 1)) ∧ fR_deep R x1 x2 x3 = some (0, 2, upd R.v10 1 (R.v10 1 + 1))) ∨
    (fC_deep C x1 x2 x3 = some (3, 0, upd C.v15 0 (C.v15 0 + 1)) ∧ fR_deep R x1 x2 x3 = some (0, 1, upd R.v10 0 (R.v10 0 + 1))) := by
  obtain ⟨np, no, hd, W, H, hS, ⟨dp, fd, dy, hG⟩, -⟩ := hc
  have h5 := hS.1
  rcases pz_cell hS C.v15 R.v10 x1 x2 x3 with ⟨h1, h2⟩ | ⟨h1, h2⟩ | ⟨p, x, y, hp, hx, hy, w4, h4, rfl, rfl, rfl, h1, h2⟩
  · exact .inr (.inl ⟨by simp -implicitDefEqProofs only [Option.bind_some, pz10, if_true, if_false, eq_self, ↓reduceIte, r_bad0, r_A1, r_A2, r_B1, r_B2, r_B3, r_C1, fC_deep, f_X10_deep, h1]; rfl, by simp -implicitDefEqProofs only [Option.bind_some, pz10, if_true, if_false, eq_self, ↓reduceIte, r_bad0, r_A1, r_A2, r_B1, r_B2, r_B3, r_C1, fR_deep, f_X11_deep, h2]⟩)
  · exact .inr (.inr ⟨by simp -implicitDefEqProofs only [Option.bind_some, pz10, if_true, if_false, eq_self, ↓reduceIte, r_bad0, r_A1, r_A2, r_B1, r_B2, r_B3, r_C1, fC_deep, f_X10_deep, h1]; rfl, by simp -implicitDefEqProofs only [Option.bind_some, pz10, if_true, if_false, eq_self, ↓reduceIte, r_bad0, r_A1, r_A2, r_B1, r_B2, r_B3, r_C1, fR_deep, f_X11_deep, h2]⟩)
  · have hd1 := hG.dep (c := 16 * p + 4 * y + x) (by omega)
    have hd2 := hG.many (c := 16 * p + 4 * y + x) (by omega)
    refine .inl ⟨nI (dp (16 * p + 4 * y + x)), ?_, ?_⟩
    · simp -implicitDefEqProofs only [Option.bind_some, pz10, if_true, if_false, eq_self, ↓reduceIte, r_bad0, r_A1, r_A2, r_B1, r_B2, r_B3, r_C1, fC_deep, f_X10_deep, h1]
      rw [pu_ck (by omega) (by omega), nI_clamp (by omega), hd1]
    · simp -implicitDefEqProofs only [Option.bind_some, pz10, if_true, if_false, eq_self, ↓reduceIte, r_bad0, r_A1, r_A2, r_B1, r_B2, r_B3, r_C1, fR_deep, f_X11_deep, h2, f_X11_cellOf]
      rw [show (16 : Int32) * nI p + 4 * nI y + nI x = nI (16 * p + 4 * y + x) by simp -implicitDefEqProofs (disch := omega) only [pl0, pl1, pl2, pl3, pl4, pl5, pl6, pl7, pl8, pl9, pl10, pl11, pl12, pl13, pl14, pl15, pl16, pl17, pl18, pl19, pl20, pl21, pl22, pl23, pl24, pl25, pl26, pl27, pl28, pl29, pl30, pl31, pl32, pl48, pl57, pl60, pl61, pl80, pl97, pl99, pl100, pl122, pl150, pl160, pl199, pl200, pl201, pl255, pl305, pl600, pl999, pl1000, pl2400, pl2480, pl2681, pl2682, pl2683, pl2684, pl2685, pl9999, pl100000, pl1000000, pk_mul, nI_add, pk_sub, nI_clamp, nI_eq, nI_leI, nI_ltI, pk_div, pn_rem, pu_ck, Option.bind_some, if_pos, if_neg, and_true, true_and, if_true, if_false], pl2400, nI_add, pu_ck (by omega) (by omega), nI_clamp (by omega), hd2]
theorem q_deep {L i : Nat} {C : CS} {R : RS} {cells slots : Nat} (h : PzInv L i C R cells slots) (hi : i + 7 ≤ L) (x1 x2 x3 : Int32) : pS_deep (PzInv L (i + 7)) C R x1 x2 x3 cells slots := by
  rcases a_deep h.2.1 x1 x2 x3 with ⟨r, h1, h2⟩ | ⟨h1, h2⟩ | ⟨h1, h2⟩
  · exact ⟨(0, r, C.v15), (r, 0, R.v10), h1, h2, .inl rfl, rfl, fun _ => rfl, pz_fit h (by omega) (by omega), h.keep hi (by omega) (by omega) h.1⟩
  · exact ⟨(2, 0, upd C.v15 1 (C.v15 1 + 1)), (0, 2, upd R.v10 1 (R.v10 1 + 1)), h1, h2, .inr (.inr rfl), rfl, fun _ => rfl, pz_fit h (by omega) (by omega), h.keep hi (by omega) (by omega) h.1.up⟩
  · exact ⟨(3, 0, upd C.v15 0 (C.v15 0 + 1)), (0, 1, upd R.v10 0 (R.v10 0 + 1)), h1, h2, .inr (.inl rfl), rfl, fun _ => rfl, pz_fit h (by omega) (by omega), h.keep hi (by omega) (by omega) h.1.up⟩
theorem a_film {C : CS} {R : RS} (hc : PzC C R) (x1 x2 x3 x4 : Int32) :
    (∃ r, fC_film C x1 x2 x3 x4 = some (0, r, C.v15) ∧ fR_film R x1 x2 x3 x4 = some (r, 0, R.v10)) ∨
    (fC_film C x1 x2 x3 x4 = some (2, 0, upd C.v15 1 (C.v15 1 + 1)) ∧ fR_film R x1 x2 x3 x4 = some (0, 2, upd R.v10 1 (R.v10 1 + 1))) ∨
    (fC_film C x1 x2 x3 x4 = some (3, 0, upd C.v15 0 (C.v15 0 + 1)) ∧ fR_film R x1 x2 x3 x4 = some (0, 1, upd R.v10 0 (R.v10 0 + 1))) := by
  obtain ⟨np, no, hd, W, H, hS, ⟨dp, fd, dy, hG⟩, -⟩ := hc
  have h5 := hS.1
  have h30 := hS.2.2.1.2
  rcases pz_cell hS C.v15 R.v10 x1 x2 x3 with ⟨h1, h2⟩ | ⟨h1, h2⟩ | ⟨p, x, y, hp, hx, hy, w4, h4, rfl, rfl, rfl, h1, h2⟩
  · exact .inr (.inl ⟨by simp -implicitDefEqProofs only [Option.bind_some, pz10, if_true, if_false, eq_self, ↓reduceIte, r_bad0, r_A1, r_A2, r_B1, r_B2, r_B3, r_C1, fC_film, f_X10_film, h1]; rfl, by simp -implicitDefEqProofs only [Option.bind_some, pz10, if_true, if_false, eq_self, ↓reduceIte, r_bad0, r_A1, r_A2, r_B1, r_B2, r_B3, r_C1, fR_film, f_X11_film, h2]⟩)
  · exact .inr (.inr ⟨by simp -implicitDefEqProofs only [Option.bind_some, pz10, if_true, if_false, eq_self, ↓reduceIte, r_bad0, r_A1, r_A2, r_B1, r_B2, r_B3, r_C1, fC_film, f_X10_film, h1]; rfl, by simp -implicitDefEqProofs only [Option.bind_some, pz10, if_true, if_false, eq_self, ↓reduceIte, r_bad0, r_A1, r_A2, r_B1, r_B2, r_B3, r_C1, fR_film, f_X11_film, h2]⟩)
  · have hc : 16 * p + 4 * y + x < 80 := by omega
    have hle := hG.le hc
    have e16 : (16 : Int32) * nI p + 4 * nI y + nI x = nI (16 * p + 4 * y + x) := by simp -implicitDefEqProofs (disch := omega) only [pl0, pl1, pl2, pl3, pl4, pl5, pl6, pl7, pl8, pl9, pl10, pl11, pl12, pl13, pl14, pl15, pl16, pl17, pl18, pl19, pl20, pl21, pl22, pl23, pl24, pl25, pl26, pl27, pl28, pl29, pl30, pl31, pl32, pl48, pl57, pl60, pl61, pl80, pl97, pl99, pl100, pl122, pl150, pl160, pl199, pl200, pl201, pl255, pl305, pl600, pl999, pl1000, pl2400, pl2480, pl2681, pl2682, pl2683, pl2684, pl2685, pl9999, pl100000, pl1000000, pk_mul, nI_add, pk_sub, nI_clamp, nI_eq, nI_leI, nI_ltI, pk_div, pn_rem, pu_ck, Option.bind_some, if_pos, if_neg, and_true, true_and, if_true, if_false]
    by_cases h0 : x4 < 0
    · refine .inl ⟨0, ?_, ?_⟩
      · simp -implicitDefEqProofs only [Option.bind_some, pz10, if_true, if_false, eq_self, ↓reduceIte, r_bad0, r_A1, r_A2, r_B1, r_B2, r_B3, r_C1, fC_film, f_X10_film, h1, f_X2_behind, h0]
      · have h29 : x4 < 30 := Int32.lt_trans h0 (by decide)
        simp -implicitDefEqProofs only [Option.bind_some, pz10, if_true, if_false, eq_self, ↓reduceIte, r_bad0, r_A1, r_A2, r_B1, r_B2, r_B3, r_C1, fR_film, f_X11_film, h2, f_X11_cellOf, e16, f_X11_filmOf, h0, h29]
        rw [pl2400, nI_add, pu_ck (by omega) (by omega)]
        rfl
    · obtain ⟨j, hj, rfl⟩ := nI_of h0
      refine .inl ⟨nI (bhn dp fd (16 * p + 4 * y + x) j), ?_, ?_⟩
      · simp -implicitDefEqProofs only [Option.bind_some, pz10, if_true, if_false, eq_self, ↓reduceIte, r_bad0, r_A1, r_A2, r_B1, r_B2, r_B3, r_C1, fC_film, f_X10_film, h1, p_behindG hG h30 hc hj]
      · simp -implicitDefEqProofs only [Option.bind_some, pz10, if_true, if_false, eq_self, ↓reduceIte, r_bad0, r_A1, r_A2, r_B1, r_B2, r_B3, r_C1, fR_film, f_X11_film, h2, f_X11_cellOf, e16]
        by_cases h3 : j < 30
        · rw [pl30, if_pos (nI_lt h3 (by omega)), r_filmG hG h30 hc (by omega)]
          rfl
        · rw [pl30, if_neg (nI_nlt (by omega) (by omega)), bhn, if_neg (by omega)]
          rfl
theorem q_film {L i : Nat} {C : CS} {R : RS} {cells slots : Nat} (h : PzInv L i C R cells slots) (hi : i + 7 ≤ L) (x1 x2 x3 x4 : Int32) : pS_film (PzInv L (i + 7)) C R x1 x2 x3 x4 cells slots := by
  rcases a_film h.2.1 x1 x2 x3 x4 with ⟨r, h1, h2⟩ | ⟨h1, h2⟩ | ⟨h1, h2⟩
  · exact ⟨(0, r, C.v15), (r, 0, R.v10), h1, h2, .inl rfl, rfl, fun _ => rfl, pz_fit h (by omega) (by omega), h.keep hi (by omega) (by omega) h.1⟩
  · exact ⟨(2, 0, upd C.v15 1 (C.v15 1 + 1)), (0, 2, upd R.v10 1 (R.v10 1 + 1)), h1, h2, .inr (.inr rfl), rfl, fun _ => rfl, pz_fit h (by omega) (by omega), h.keep hi (by omega) (by omega) h.1.up⟩
  · exact ⟨(3, 0, upd C.v15 0 (C.v15 0 + 1)), (0, 1, upd R.v10 0 (R.v10 0 + 1)), h1, h2, .inr (.inl rfl), rfl, fun _ => rfl, pz_fit h (by omega) (by omega), h.keep hi (by omega) (by omega) h.1.up⟩
theorem a_told {C : CS} {R : RS} (hc : PzC C R) (x1 : Int32) :
    (∃ r, fC_told C x1 = some (0, r, C.v15) ∧ fR_told R x1 = some (r, 0, R.v10)) ∨
    (fC_told C x1 = some (1, 0, upd C.v15 2 (C.v15 2 + 1)) ∧ fR_told R x1 = some (0, 1, upd R.v10 2 (R.v10 2 + 1))) := by
  obtain ⟨np, no, hd, W, H, hS, ⟨dp, fd, dy, hG⟩, -, ⟨bn, bx, hb1, hb2, hb3, -⟩, -, -, -, h14, -⟩ := hc
  obtain ⟨h5, h12, ⟨-, h30⟩, ⟨s1, t1⟩, ⟨s2, t2⟩, ⟨nr, -, s3, t3, -⟩, -⟩ := hS
  rcases pz_what C.v15 x1 8 (by omega) with ⟨h1, h2⟩ | ⟨a, ha, rfl, h1, h2⟩
  · rw [← pl8] at h1 h2
    exact .inr ⟨by simp -implicitDefEqProofs only [Option.bind_some, pz10, if_true, if_false, eq_self, ↓reduceIte, r_bad0, r_A1, r_A2, r_B1, r_B2, r_B3, r_C1, fC_told, f_X10_told, h1]; rfl, by simp -implicitDefEqProofs only [Option.bind_some, pz10, if_true, if_false, eq_self, ↓reduceIte, r_bad0, r_A1, r_A2, r_B1, r_B2, r_B3, r_C1, fR_told, f_X11_told, h2, f_X11_told_b21]⟩
  · rw [← pl8] at h1 h2
    have e := p_onAll hG h5
    have e' := r_onAll hG h5 t1
    have e2 := r_onRag (row := R.v29)
    obtain ⟨-, -, ⟨-, e3, e4⟩, -, e5, e6, -, -⟩ := hG
    have ha : a = 0 ∨ a = 1 ∨ a = 2 ∨ a = 3 ∨ a = 4 ∨ a = 5 ∨ a = 6 ∨ a = 7 ∨ a = 8 := by omega
    rcases ha with rfl | rfl | rfl | rfl | rfl | rfl | rfl | rfl | rfl
    · exact .inl ⟨nI np, by simp -implicitDefEqProofs only [Option.bind_some, pz10, if_true, if_false, eq_self, ↓reduceIte, r_bad0, r_A1, r_A2, r_B1, r_B2, r_B3, r_C1, fC_told, f_X10_told, h1, s1]; rfl, by simp -implicitDefEqProofs only [Option.bind_some, pz10, if_true, if_false, eq_self, ↓reduceIte, r_bad0, r_A1, r_A2, r_B1, r_B2, r_B3, r_C1, fR_told, f_X11_told, h2, f_X11_told_b21]; exact congrArg some (congrArg (fun z => (z, (0 : Int32), R.v10)) t1)⟩
    · exact .inl ⟨nI no, by simp -implicitDefEqProofs only [Option.bind_some, pz10, if_true, if_false, eq_self, ↓reduceIte, r_bad0, r_A1, r_A2, r_B1, r_B2, r_B3, r_C1, fC_told, f_X10_told, h1, s2]; rfl, by simp -implicitDefEqProofs only [Option.bind_some, pz10, if_true, if_false, eq_self, ↓reduceIte, r_bad0, r_A1, r_A2, r_B1, r_B2, r_B3, r_C1, fR_told, f_X11_told, h2, f_X11_told_b21]; exact congrArg some (congrArg (fun z => (z, (0 : Int32), R.v10)) t2)⟩
    · exact .inl ⟨nI nr, by simp -implicitDefEqProofs only [Option.bind_some, pz10, if_true, if_false, eq_self, ↓reduceIte, r_bad0, r_A1, r_A2, r_B1, r_B2, r_B3, r_C1, fC_told, f_X10_told, h1, s3]; rfl, by simp -implicitDefEqProofs only [Option.bind_some, pz10, if_true, if_false, eq_self, ↓reduceIte, r_bad0, r_A1, r_A2, r_B1, r_B2, r_B3, r_C1, fR_told, f_X11_told, h2, f_X11_told_b21]; exact congrArg some (congrArg (fun z => (z, (0 : Int32), R.v10)) t3)⟩
    · exact .inl ⟨nI dy, by simp -implicitDefEqProofs only [Option.bind_some, pz10, if_true, if_false, eq_self, ↓reduceIte, r_bad0, r_A1, r_A2, r_B1, r_B2, r_B3, r_C1, fC_told, f_X10_told, h1, e3]; rfl, by simp -implicitDefEqProofs only [Option.bind_some, pz10, if_true, if_false, eq_self, ↓reduceIte, r_bad0, r_A1, r_A2, r_B1, r_B2, r_B3, r_C1, fR_told, f_X11_told, h2, f_X11_told_b21]; exact congrArg some (congrArg (fun z => (z, (0 : Int32), R.v10)) e4)⟩
    · exact .inl ⟨_, by simp -implicitDefEqProofs only [Option.bind_some, pz10, if_true, if_false, eq_self, ↓reduceIte, r_bad0, r_A1, r_A2, r_B1, r_B2, r_B3, r_C1, fC_told, f_X10_told, h1, e]; rfl, by simp -implicitDefEqProofs only [Option.bind_some, pz10, if_true, if_false, eq_self, ↓reduceIte, r_bad0, r_A1, r_A2, r_B1, r_B2, r_B3, r_C1, fR_told, f_X11_told, h2, f_X11_told_b21, e']; rfl⟩
    · exact .inl ⟨pzRag R.v29 201, by simp -implicitDefEqProofs only [Option.bind_some, pz10, if_true, if_false, eq_self, ↓reduceIte, r_bad0, r_A1, r_A2, r_B1, r_B2, r_B3, r_C1, fC_told, f_X10_told, h1, e5]; rfl, by simp -implicitDefEqProofs only [Option.bind_some, pz10, if_true, if_false, eq_self, ↓reduceIte, r_bad0, r_A1, r_A2, r_B1, r_B2, r_B3, r_C1, fR_told, f_X11_told, h2, f_X11_told_b21, e2]; rfl⟩
    · exact .inl ⟨R.v29 2683, by simp -implicitDefEqProofs only [Option.bind_some, pz10, if_true, if_false, eq_self, ↓reduceIte, r_bad0, r_A1, r_A2, r_B1, r_B2, r_B3, r_C1, fC_told, f_X10_told, h1, e6]; rfl, by simp -implicitDefEqProofs only [Option.bind_some, pz10, if_true, if_false, eq_self, ↓reduceIte, r_bad0, r_A1, r_A2, r_B1, r_B2, r_B3, r_C1, fR_told, f_X11_told, h2, f_X11_told_b21]; rfl⟩
    · exact .inl ⟨nI bn, by simp -implicitDefEqProofs only [Option.bind_some, pz10, if_true, if_false, eq_self, ↓reduceIte, r_bad0, r_A1, r_A2, r_B1, r_B2, r_B3, r_C1, fC_told, f_X10_told, h1, hb2]; rfl, by simp -implicitDefEqProofs only [Option.bind_some, pz10, if_true, if_false, eq_self, ↓reduceIte, r_bad0, r_A1, r_A2, r_B1, r_B2, r_B3, r_C1, fR_told, f_X11_told, h2, f_X11_told_b21, hb3]; rfl⟩
    · exact .inl ⟨R.i35, by simp -implicitDefEqProofs only [Option.bind_some, pz10, if_true, if_false, eq_self, ↓reduceIte, r_bad0, r_A1, r_A2, r_B1, r_B2, r_B3, r_C1, fC_told, f_X10_told, h1, h14]; rfl, by simp -implicitDefEqProofs only [Option.bind_some, pz10, if_true, if_false, eq_self, ↓reduceIte, r_bad0, r_A1, r_A2, r_B1, r_B2, r_B3, r_C1, fR_told, f_X11_told, h2, f_X11_told_b21]; rfl⟩
theorem q_told {L i : Nat} {C : CS} {R : RS} {cells slots : Nat} (h : PzInv L i C R cells slots) (hi : i + 7 ≤ L) (x1 : Int32) : pS_told (PzInv L (i + 7)) C R x1 cells slots := by
  rcases a_told h.2.1 x1 with ⟨r, h1, h2⟩ | ⟨h1, h2⟩
  · exact ⟨(0, r, C.v15), (r, 0, R.v10), h1, h2, .inl rfl, rfl, fun _ => rfl, pz_fit h (by omega) (by omega), h.keep hi (by omega) (by omega) h.1⟩
  · exact ⟨(1, 0, upd C.v15 2 (C.v15 2 + 1)), (0, 1, upd R.v10 2 (R.v10 2 + 1)), h1, h2, .inr rfl, rfl, fun _ => rfl, pz_fit h (by omega) (by omega), h.keep hi (by omega) (by omega) h.1.up⟩
theorem a_pane {C : CS} {R : RS} (hc : PzC C R) (x1 x2 : Int32) :
    (∃ r, fC_pane C x1 x2 = some (0, r, C.v15) ∧ fR_pane R x1 x2 = some (r, 0, R.v10)) ∨
    (fC_pane C x1 x2 = some (2, 0, upd C.v15 1 (C.v15 1 + 1)) ∧ fR_pane R x1 x2 = some (0, 1, upd R.v10 1 (R.v10 1 + 1))) ∨
    (fC_pane C x1 x2 = some (1, 0, upd C.v15 2 (C.v15 2 + 1)) ∧ fR_pane R x1 x2 = some (0, 2, upd R.v10 2 (R.v10 2 + 1))) := by
  obtain ⟨np, no, hd, W, H, hS, ⟨dp, fd, dy, hG⟩, -⟩ := hc
  rcases pz_pane hS C.v15 x1 with ⟨h1, h2⟩ | ⟨p, hp, hp5, rfl, h1, h2⟩
  · exact .inr (.inl ⟨by simp -implicitDefEqProofs only [Option.bind_some, pz10, if_true, if_false, eq_self, ↓reduceIte, r_bad0, r_A1, r_A2, r_B1, r_B2, r_B3, r_C1, fC_pane, f_X10_pane, h1]; rfl, by simp -implicitDefEqProofs only [Option.bind_some, pz10, if_true, if_false, eq_self, ↓reduceIte, r_bad0, r_A1, r_A2, r_B1, r_B2, r_B3, r_C1, fR_pane, f_X11_pane, h2, f_X11_pane_b19]⟩)
  · rcases pz_what C.v15 x2 5 (by omega) with ⟨h3, h4⟩ | ⟨a, ha, rfl, h3, h4⟩
    · rw [← pl5] at h3 h4
      exact .inr (.inr ⟨by simp -implicitDefEqProofs only [Option.bind_some, pz10, if_true, if_false, eq_self, ↓reduceIte, r_bad0, r_A1, r_A2, r_B1, r_B2, r_B3, r_C1, fC_pane, f_X10_pane, h1, h3]; rfl, by simp -implicitDefEqProofs only [Option.bind_some, pz10, if_true, if_false, eq_self, ↓reduceIte, r_bad0, r_A1, r_A2, r_B1, r_B2, r_B3, r_C1, fR_pane, f_X11_pane, h2, f_X11_pane_b19, f_X11_pane_b42, h4]⟩)
    · rw [← pl5] at h3 h4
      obtain ⟨-, -, e1, e2, e3, e4, ⟨a1, -, e5, e6⟩, ⟨a2, -, e7, e8⟩, -⟩ := hS.2.2.2.2.2.2.2.2.2.1 p hp
      have e9 := p_filmsOn (p := p) (by omega) (fun c hc => hG.dep hc)
      have e10 := r_onPane (p := p) (by omega) (fun c hc => hG.many hc)
      obtain ⟨b, hb, e11, e12, -⟩ := hG.2.2.2.2.2.2.2
      have ha : a = 0 ∨ a = 1 ∨ a = 2 ∨ a = 3 ∨ a = 4 ∨ a = 5 := by omega
      rcases ha with rfl | rfl | rfl | rfl | rfl | rfl
      · refine .inl ⟨nI (W p), ?_, ?_⟩
        · simp -implicitDefEqProofs only [Option.bind_some, pz10, if_true, if_false, eq_self, ↓reduceIte, r_bad0, r_A1, r_A2, r_B1, r_B2, r_B3, r_C1, fC_pane, f_X10_pane, h1, h3]
          rw [if_pos (by decide), pu_ck hp5 (by omega), nI_clamp (by omega), e1]
        · simp -implicitDefEqProofs only [Option.bind_some, pz10, if_true, if_false, eq_self, ↓reduceIte, r_bad0, r_A1, r_A2, r_B1, r_B2, r_B3, r_C1, fR_pane, f_X11_pane, h2, f_X11_pane_b19, f_X11_pane_b42, h4]
          rw [if_neg (by decide), pu_ck hp5 (by omega), pu_ck (by omega) (by omega), nI_clamp (by omega), nI_clamp (by omega), e2]
      · refine .inl ⟨nI (H p), ?_, ?_⟩
        · simp -implicitDefEqProofs only [Option.bind_some, pz10, if_true, if_false, eq_self, ↓reduceIte, r_bad0, r_A1, r_A2, r_B1, r_B2, r_B3, r_C1, fC_pane, f_X10_pane, h1, h3]
          rw [if_neg (by decide), if_pos (by decide), pu_ck hp5 (by omega), nI_clamp (by omega), e3]
        · simp -implicitDefEqProofs only [Option.bind_some, pz10, if_true, if_false, eq_self, ↓reduceIte, r_bad0, r_A1, r_A2, r_B1, r_B2, r_B3, r_C1, fR_pane, f_X11_pane, h2, f_X11_pane_b19, f_X11_pane_b42, h4]
          rw [if_neg (by decide), pu_ck hp5 (by omega), pu_ck (by omega) (by omega), nI_clamp (by omega), nI_clamp (by omega), e4]
      · refine .inl ⟨nI a1, ?_, ?_⟩
        · simp -implicitDefEqProofs only [Option.bind_some, pz10, if_true, if_false, eq_self, ↓reduceIte, r_bad0, r_A1, r_A2, r_B1, r_B2, r_B3, r_C1, fC_pane, f_X10_pane, h1, h3]
          rw [if_neg (by decide), if_neg (by decide), if_pos (by decide), pu_ck hp5 (by omega), nI_clamp (by omega), e5]
        · simp -implicitDefEqProofs only [Option.bind_some, pz10, if_true, if_false, eq_self, ↓reduceIte, r_bad0, r_A1, r_A2, r_B1, r_B2, r_B3, r_C1, fR_pane, f_X11_pane, h2, f_X11_pane_b19, f_X11_pane_b42, h4]
          rw [if_neg (by decide), pu_ck hp5 (by omega), pu_ck (by omega) (by omega), nI_clamp (by omega), nI_clamp (by omega), e6]
      · refine .inl ⟨nI a2, ?_, ?_⟩
        · simp -implicitDefEqProofs only [Option.bind_some, pz10, if_true, if_false, eq_self, ↓reduceIte, r_bad0, r_A1, r_A2, r_B1, r_B2, r_B3, r_C1, fC_pane, f_X10_pane, h1, h3]
          rw [if_neg (by decide), if_neg (by decide), if_neg (by decide), if_pos (by decide), pu_ck hp5 (by omega), nI_clamp (by omega), e7]
        · simp -implicitDefEqProofs only [Option.bind_some, pz10, if_true, if_false, eq_self, ↓reduceIte, r_bad0, r_A1, r_A2, r_B1, r_B2, r_B3, r_C1, fR_pane, f_X11_pane, h2, f_X11_pane_b19, f_X11_pane_b42, h4]
          rw [if_neg (by decide), pu_ck hp5 (by omega), pu_ck (by omega) (by omega), nI_clamp (by omega), nI_clamp (by omega), e8]
      · refine .inl ⟨nI (aP dp p), ?_, ?_⟩
        · simp -implicitDefEqProofs only [Option.bind_some, pz10, if_true, if_false, eq_self, ↓reduceIte, r_bad0, r_A1, r_A2, r_B1, r_B2, r_B3, r_C1, fC_pane, f_X10_pane, h1, h3, e9]
          rfl
        · simp -implicitDefEqProofs only [Option.bind_some, pz10, if_true, if_false, eq_self, ↓reduceIte, r_bad0, r_A1, r_A2, r_B1, r_B2, r_B3, r_C1, fR_pane, f_X11_pane, h2, f_X11_pane_b19, f_X11_pane_b42, h4, e10]
          rfl
      · refine .inl ⟨nI (b / 2 ^ p % 2), ?_, ?_⟩
        · simp -implicitDefEqProofs only [Option.bind_some, pz10, if_true, if_false, eq_self, ↓reduceIte, r_bad0, r_A1, r_A2, r_B1, r_B2, r_B3, r_C1, fC_pane, f_X10_pane, h1, h3, e11, f_X2_isBroken]
          rw [if_neg (by decide), if_neg (by decide), if_neg (by decide), if_neg (by decide), if_neg (by decide), pl31, pl1, pn_bit (by omega) (by omega)]
          rcases Nat.mod_two_eq_zero_or_one (b / 2 ^ p) with h0 | h0
          · rw [h0]
            rfl
          · rw [h0]
            rfl
        · simp -implicitDefEqProofs only [Option.bind_some, pz10, if_true, if_false, eq_self, ↓reduceIte, r_bad0, r_A1, r_A2, r_B1, r_B2, r_B3, r_C1, fR_pane, f_X11_pane, h2, f_X11_pane_b19, f_X11_pane_b42, h4]
          rw [if_pos (by decide), if_neg (by decide), show ((2681 : Int32).toNatClampNeg) = 2681 from rfl, e12, pl31, pl1, pn_bit (by omega) (by omega)]
theorem q_pane {L i : Nat} {C : CS} {R : RS} {cells slots : Nat} (h : PzInv L i C R cells slots) (hi : i + 7 ≤ L) (x1 x2 : Int32) : pS_pane (PzInv L (i + 7)) C R x1 x2 cells slots := by
  rcases a_pane h.2.1 x1 x2 with ⟨r, h1, h2⟩ | ⟨h1, h2⟩ | ⟨h1, h2⟩
  · exact ⟨(0, r, C.v15), (r, 0, R.v10), h1, h2, .inl rfl, rfl, fun _ => rfl, pz_fit h (by omega) (by omega), h.keep hi (by omega) (by omega) h.1⟩
  · exact ⟨(2, 0, upd C.v15 1 (C.v15 1 + 1)), (0, 1, upd R.v10 1 (R.v10 1 + 1)), h1, h2, .inr (.inl rfl), rfl, fun _ => rfl, pz_fit h (by omega) (by omega), h.keep hi (by omega) (by omega) h.1.up⟩
  · exact ⟨(1, 0, upd C.v15 2 (C.v15 2 + 1)), (0, 2, upd R.v10 2 (R.v10 2 + 1)), h1, h2, .inr (.inr rfl), rfl, fun _ => rfl, pz_fit h (by omega) (by omega), h.keep hi (by omega) (by omega) h.1.up⟩
