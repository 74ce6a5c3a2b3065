/-! films -/
theorem p_cellNoP {v wi hi : Nat → Int32} {np : Nat} {x x2 x3 : Int32} (h : x < 0 ∨ nI np ≤ x) : f_X10_needCell v (nI np) wi hi x x2 x3 = some (2, 0, upd v 1 (v 1 + 1)) := by
  rw [f_X10_needCell, p_paneNo h]
  rfl
theorem p_cellOk {v wi hi : Nat → Int32} {np p x y w h : Nat} (hp : p < np) (hn : np ≤ 5) (hw : wi p = nI w) (hh : hi p = nI h) (hx : x < w) (hy : y < h) (w4 : w ≤ 4) (h4 : h ≤ 4) : f_X10_needCell v (nI np) wi hi (nI p) (nI x) (nI y) = some (0, nI (16 * p + 4 * y + x), v) := by
  rw [f_X10_needCell, p_paneOk hp hn, Option.bind_some, if_pos rfl]
  simp -implicitDefEqProofs (disch := omega) only [pl0, pl1, pl2, pl3, pl4, pl5, pl6, pl7, pl8, pl9, pl10, pl11, pl12, pl13, pl14, pl15, pl16, pl17, pl18, pl19, pl20, pl21, pl22, pl23, pl24, pl25, pl26, pl27, pl28, pl29, pl30, pl31, pl32, pl48, pl57, pl60, pl61, pl80, pl97, pl99, pl100, pl122, pl150, pl160, pl199, pl200, pl201, pl255, pl305, pl600, pl999, pl1000, pl2400, pl2480, pl2681, pl2682, pl2683, pl2684, pl2685, pl9999, pl100000, pl1000000, pk_mul, nI_add, pk_sub, nI_clamp, nI_eq, nI_leI, nI_ltI, pk_div, pn_rem, pu_ck, Option.bind_some, if_pos, if_neg, and_true, true_and, if_true, if_false, hw, hh, f_X10_cellAt]
theorem p_cellNoC {v wi hi : Nat → Int32} {np p w h : Nat} {x y : Int32} (hp : p < np) (hn : np ≤ 5) (hw : wi p = nI w) (hh : hi p = nI h) (hx : (x < 0 ∨ nI w ≤ x) ∨ (y < 0 ∨ nI h ≤ y)) : f_X10_needCell v (nI np) wi hi (nI p) x y = some (3, 0, upd v 0 (v 0 + 1)) := by
  rw [f_X10_needCell, p_paneOk hp hn, Option.bind_some, if_pos rfl, pu_ck (by omega) (by omega), pu_ck (by omega) (by omega), nI_clamp (by omega), hw, hh]
  by_cases h0 : x < 0
  · rw [if_pos h0]
    rfl
  · rw [if_neg h0]
    by_cases h1 : nI w ≤ x
    · rw [if_pos h1]
      rfl
    · rw [if_neg h1]
      by_cases h2 : y < 0
      · rw [if_pos h2]
        rfl
      · rw [if_neg h2]
        have h3 : nI h ≤ y := by
          rcases hx with (hx | hx) | hx | hx
          · exact absurd hx h0
          · exact absurd hx h1
          · exact absurd hx h2
          · exact hx
        rw [if_neg (Int32.not_lt.mpr h3)]
        rfl
theorem r_isCellOk {pa : Nat → Nat → Int32} {p x y w h : Nat} (hp : p < 5) (hw : pa p 0 = nI w) (hh : pa p 1 = nI h) (hx : x < w) (hy : y < h) (w4 : w ≤ 4) (h4 : h ≤ 4) : f_X11_isCell pa (nI p) (nI x) (nI y) = some 1 := by
  rw [f_X11_isCell, pu_ck (by omega) (by omega), pu_ck (by omega) (by omega), nI_clamp (by omega), show ((0 : Int32).toNatClampNeg) = 0 from rfl, show ((1 : Int32).toNatClampNeg) = 1 from rfl, hw, hh, pl1, pk_sub (by omega), pk_sub (by omega), pl0, r_inOk (by omega) (by omega) (by omega), Option.bind_some, if_neg (by decide), r_inOk (by omega) (by omega) (by omega)]
  rfl
theorem r_isCellNo {pa : Nat → Nat → Int32} {p w h : Nat} {x y : Int32} (hp : p < 5) (hw : pa p 0 = nI w) (hh : pa p 1 = nI h) (w4 : w ≤ 4) (h4 : h ≤ 4) (hx : (x < 0 ∨ nI w ≤ x) ∨ (y < 0 ∨ nI h ≤ y)) : f_X11_isCell pa (nI p) x y = some 0 := by
  rw [f_X11_isCell, pu_ck (by omega) (by omega), pu_ck (by omega) (by omega), nI_clamp (by omega), show ((0 : Int32).toNatClampNeg) = 0 from rfl, show ((1 : Int32).toNatClampNeg) = 1 from rfl, hw, hh]
  rcases pz_ix x (n := w) (by omega) with h1 | ⟨j, h1, rfl⟩
  · rw [r_inNo (pz_lastLt (by omega) h1)]
    rfl
  · have h2 : y < 0 ∨ nI h ≤ y := by
      rcases hx with (hx | hx) | hx
      · exact absurd hx (nI_pos (by omega))
      · exact absurd hx (nI_ge h1 (by omega))
      · exact hx
    rw [pl1, pk_sub (by omega), pl0, r_inOk (by omega) (by omega) (by omega), Option.bind_some, if_neg (by decide), ← pl0, ← pl1, r_inNo (pz_lastLt (by omega) h2)]
    rfl
theorem r_noCellNoP {v to : Nat → Int32} {pa : Nat → Nat → Int32} {np : Nat} {x x2 x3 : Int32} (ht : to 0 = nI np) (hn : np ≤ 5) (h : x < 0 ∨ nI np ≤ x) : f_X11_noCell 0 v to pa x x2 x3 = some (1, 2, upd v 1 (v 1 + 1)) := by
  simp -implicitDefEqProofs only [Option.bind_some, pz10, if_true, if_false, eq_self, ↓reduceIte, r_bad0, r_A1, r_A2, r_B1, r_B2, r_B3, r_C1, f_X11_noCell, r_isPaneNo ht hn h, f_X11_noCell_b14]
theorem r_noCellNoC {v to : Nat → Int32} {pa : Nat → Nat → Int32} {np p w h : Nat} {x y : Int32} (ht : to 0 = nI np) (hn : np ≤ 5) (hp : p < np) (hw : pa p 0 = nI w) (hh : pa p 1 = nI h) (w4 : w ≤ 4) (h4 : h ≤ 4) (hx : (x < 0 ∨ nI w ≤ x) ∨ (y < 0 ∨ nI h ≤ y)) : f_X11_noCell 0 v to pa (nI p) x y = some (1, 1, upd v 0 (v 0 + 1)) := by
  simp -implicitDefEqProofs only [Option.bind_some, pz10, if_true, if_false, eq_self, ↓reduceIte, r_bad0, r_A1, r_A2, r_B1, r_B2, r_B3, r_C1, f_X11_noCell, r_isPaneOk ht hp hn, f_X11_noCell_b14, r_isCellNo (Nat.lt_of_lt_of_le hp hn) hw hh w4 h4 hx, f_X11_noCell_b38]
theorem r_noCellOk {v to : Nat → Int32} {pa : Nat → Nat → Int32} {np p w h x y : Nat} (ht : to 0 = nI np) (hn : np ≤ 5) (hp : p < np) (hw : pa p 0 = nI w) (hh : pa p 1 = nI h) (w4 : w ≤ 4) (h4 : h ≤ 4) (hx : x < w) (hy : y < h) : f_X11_noCell 0 v to pa (nI p) (nI x) (nI y) = some (0, 0, v) := by
  simp -implicitDefEqProofs only [Option.bind_some, pz10, if_true, if_false, eq_self, ↓reduceIte, r_bad0, r_A1, r_A2, r_B1, r_B2, r_B3, r_C1, f_X11_noCell, r_isPaneOk ht hp hn, f_X11_noCell_b14, r_isCellOk (Nat.lt_of_lt_of_le hp hn) hw hh hx hy w4 h4, f_X11_noCell_b38]
/-- the day of the film that has j films outside of it; 0 -/
def bhn (dp fd : Nat → Nat) (c j : Nat) : Nat := if j < dp c then fd (30 * c + dp c - 1 - j) else 0
theorem PzG.dep {np hd : Nat} {W H : Nat → Nat} {G : GC} {row : Nat → Int32} {dp fd : Nat → Nat} {dy : Nat} (h : PzG np hd W H G row dp fd dy) {c : Nat} (hc : c < 80) : G.2.2.2.2.2.2.1 c = nI (dp c) := (h.1 c hc).2.1
theorem PzG.many {np hd : Nat} {W H : Nat → Nat} {G : GC} {row : Nat → Int32} {dp fd : Nat → Nat} {dy : Nat} (h : PzG np hd W H G row dp fd dy) {c : Nat} (hc : c < 80) : row (2400 + c) = nI (dp c) := (h.1 c hc).2.2.1
theorem PzG.le {np hd : Nat} {W H : Nat → Nat} {G : GC} {row : Nat → Int32} {dp fd : Nat → Nat} {dy : Nat} (h : PzG np hd W H G row dp fd dy) {c : Nat} (hc : c < 80) : dp c ≤ hd := (h.1 c hc).1
theorem PzG.fi {np hd : Nat} {W H : Nat → Nat} {G : GC} {row : Nat → Int32} {dp fd : Nat → Nat} {dy : Nat} (h : PzG np hd W H G row dp fd dy) {c j : Nat} (hc : c < 80) (hj : j < dp c) : G.2.2.2.2.2.1 (30 * c + dp c - 1 - j) = nI (fd (30 * c + dp c - 1 - j)) := by
  have := (h.2.1 c hc (dp c - 1 - j) (by omega)).1
  rwa [show 30 * c + (dp c - 1 - j) = 30 * c + dp c - 1 - j by omega] at this
theorem PzG.ro {np hd : Nat} {W H : Nat → Nat} {G : GC} {row : Nat → Int32} {dp fd : Nat → Nat} {dy : Nat} (h : PzG np hd W H G row dp fd dy) {c j : Nat} (hc : c < 80) (hj : j < dp c) : row (30 * c + dp c - 1 - j) = nI (fd (30 * c + dp c - 1 - j)) := by
  have := (h.2.1 c hc (dp c - 1 - j) (by omega)).2.1
  rwa [show 30 * c + (dp c - 1 - j) = 30 * c + dp c - 1 - j by omega] at this
theorem bhn_le {np hd : Nat} {W H : Nat → Nat} {G : GC} {row : Nat → Int32} {dp fd : Nat → Nat} {dy : Nat} (h : PzG np hd W H G row dp fd dy) {c : Nat} (hc : c < 80) (j : Nat) : bhn dp fd c j ≤ 200 := by
  rw [bhn]
  split
  · have h1 := (h.2.1 c hc (dp c - 1 - j) (by omega))
    rw [show 30 * c + (dp c - 1 - j) = 30 * c + dp c - 1 - j by omega] at h1
    have h2 := h.2.2.1.1
    omega
  · omega
theorem bhn_pos {np hd : Nat} {W H : Nat → Nat} {G : GC} {row : Nat → Int32} {dp fd : Nat → Nat} {dy : Nat} (h : PzG np hd W H G row dp fd dy) {c j : Nat} (hc : c < 80) (hj : j < dp c) : 1 ≤ bhn dp fd c j ∧ bhn dp fd c j ≤ dy := by
  rw [bhn, if_pos hj]
  have h1 := (h.2.1 c hc (dp c - 1 - j) (by omega))
  rw [show 30 * c + (dp c - 1 - j) = 30 * c + dp c - 1 - j by omega] at h1
  omega
theorem p_shownG {np hd : Nat} {W H : Nat → Nat} {G : GC} {row : Nat → Int32} {dp fd : Nat → Nat} {dy : Nat} (h : PzG np hd W H G row dp fd dy) (h30 : hd ≤ 30) {c : Nat} (hc : c < 80) : f_X2_shown G.2.2.2.2.2.1 G.2.2.2.2.2.2.1 (nI c) = some (nI (bhn dp fd c 0)) := by
  have h1 := h.le hc
  rw [f_X2_shown, bhn]
  by_cases h0 : dp c = 0
  · simp -implicitDefEqProofs (disch := omega) only [pl0, pl1, pl2, pl3, pl4, pl5, pl6, pl7, pl8, pl9, pl10, pl11, pl12, pl13, pl14, pl15, pl16, pl17, pl18, pl19, pl20, pl21, pl22, pl23, pl24, pl25, pl26, pl27, pl28, pl29, pl30, pl31, pl32, pl48, pl57, pl60, pl61, pl80, pl97, pl99, pl100, pl122, pl150, pl160, pl199, pl200, pl201, pl255, pl305, pl600, pl999, pl1000, pl2400, pl2480, pl2681, pl2682, pl2683, pl2684, pl2685, pl9999, pl100000, pl1000000, pk_mul, nI_add, pk_sub, nI_clamp, nI_eq, nI_leI, nI_ltI, pk_div, pn_rem, pu_ck, Option.bind_some, if_pos, if_neg, and_true, true_and, if_true, if_false, h.dep hc, h0]
  · have h2 := h.fi hc (j := 0) (by omega)
    rw [Nat.sub_zero] at h2 ⊢
    simp -implicitDefEqProofs (disch := omega) only [pl0, pl1, pl2, pl3, pl4, pl5, pl6, pl7, pl8, pl9, pl10, pl11, pl12, pl13, pl14, pl15, pl16, pl17, pl18, pl19, pl20, pl21, pl22, pl23, pl24, pl25, pl26, pl27, pl28, pl29, pl30, pl31, pl32, pl48, pl57, pl60, pl61, pl80, pl97, pl99, pl100, pl122, pl150, pl160, pl199, pl200, pl201, pl255, pl305, pl600, pl999, pl1000, pl2400, pl2480, pl2681, pl2682, pl2683, pl2684, pl2685, pl9999, pl100000, pl1000000, pk_mul, nI_add, pk_sub, nI_clamp, nI_eq, nI_leI, nI_ltI, pk_div, pn_rem, pu_ck, Option.bind_some, if_pos, if_neg, and_true, true_and, if_true, if_false, h.dep hc, h2]
theorem p_behindG {np hd : Nat} {W H : Nat → Nat} {G : GC} {row : Nat → Int32} {dp fd : Nat → Nat} {dy : Nat} (h : PzG np hd W H G row dp fd dy) (h30 : hd ≤ 30) {c j : Nat} (hc : c < 80) (hj : j < 2 ^ 31) : f_X2_behind G.2.2.2.2.2.1 G.2.2.2.2.2.2.1 (nI c) (nI j) = some (nI (bhn dp fd c j)) := by
  have h1 := h.le hc
  rw [bhn]
  by_cases h0 : j < dp c
  · rw [p_behind hc (h.dep hc) (by omega) h0, h.fi hc h0, if_pos h0]
  · rw [p_behind0 hc (h.dep hc) (.inr (nI_le (by omega) hj)), if_neg h0]
    rfl
theorem r_filmG {np hd : Nat} {W H : Nat → Nat} {G : GC} {row : Nat → Int32} {dp fd : Nat → Nat} {dy : Nat} (h : PzG np hd W H G row dp fd dy) (h30 : hd ≤ 30) {c j : Nat} (hc : c < 80) (hj : j < 2 ^ 29) : f_X11_filmOf 2685 row (nI c) (nI j) = some (nI (bhn dp fd c j)) := by
  have h1 := h.le hc
  rw [bhn]
  by_cases h0 : j < dp c
  · rw [r_filmOf hc (h.many hc) (by omega) h0, h.ro hc h0, if_pos h0]
  · rw [if_neg h0, f_X11_filmOf]
    have e : ¬ (0 : Int32) ≤ nI (dp c) - 1 - nI j := by
      rw [Int32.not_le]
      by_cases h3 : dp c = 0
      · rw [h3]
        rw [Int32.lt_iff_toInt_lt]
        have e1 : nI 0 - 1 - nI j = nI 0 - nI (j + 1) := by
          rw [nI_succ]
          simp only [Int32.sub_eq_add_neg, Int32.neg_add]
          rw [Int32.add_assoc, Int32.add_comm (-1)]
        rw [e1, pk_sub_toInt (by omega) (by omega)]
        simp
      · rw [pl1, pk_sub (by omega)]
        exact pk_sneg (by omega) (by omega)
    rw [pl2400, nI_add, pu_ck (by omega) (by omega), nI_clamp (by omega), h.many hc, if_neg (nI_pos (by omega)), if_neg e]
    rfl
