/-! queries: order, needs, lost -/
theorem p_orderCell {np : Nat} {W H : Nat → Nat} {s : CX6} {od : Nat → Nat → Int32} {o p x y : Nat} (ho : o < 12) (h1 : s.2.2.2.2.2.2.2.2.2.2.2.2 (5 * o) = nI p) (h2 : s.2.2.2.2.2.2.2.2.2.2.2.2 (5 * o + 1) = nI x) (h3 : s.2.2.2.2.2.2.2.2.2.2.2.2 (5 * o + 2) = nI y) : f_X6_cellOf s.2.2.2.2.2.2.2.2.2.2.2.2 (nI o) = some (nI (16 * p + 4 * y + x)) := by
  rw [f_X6_cellOf, f_X10_cellAt]
  simp -implicitDefEqProofs (disch := omega) only [pl0, pl1, pl2, pl3, pl4, pl5, pl6, pl7, pl8, pl9, pl10, pl11, pl12, pl13, pl14, pl15, pl16, pl17, pl18, pl19, pl20, pl21, pl22, pl23, pl24, pl25, pl26, pl27, pl28, pl29, pl30, pl31, pl32, pl48, pl57, pl60, pl61, pl80, pl97, pl99, pl100, pl122, pl150, pl160, pl199, pl200, pl201, pl255, pl305, pl600, pl999, pl1000, pl2400, pl2480, pl2681, pl2682, pl2683, pl2684, pl2685, pl9999, pl100000, pl1000000, pk_mul, nI_add, pk_sub, nI_clamp, nI_eq, nI_leI, nI_ltI, pk_div, pn_rem, pu_ck, Option.bind_some, if_pos, if_neg, and_true, true_and, if_true, if_false, Nat.add_zero, h1, h2, h3]
theorem p_part {v : Nat → Int32} {o k : Nat} (ho : o < 12) (hk : k < 5) : f_X6_part v (nI o) (nI k) = some (v (5 * o + k)) := by
  rw [f_X6_part]
  simp -implicitDefEqProofs (disch := omega) only [pl0, pl1, pl2, pl3, pl4, pl5, pl6, pl7, pl8, pl9, pl10, pl11, pl12, pl13, pl14, pl15, pl16, pl17, pl18, pl19, pl20, pl21, pl22, pl23, pl24, pl25, pl26, pl27, pl28, pl29, pl30, pl31, pl32, pl48, pl57, pl60, pl61, pl80, pl97, pl99, pl100, pl122, pl150, pl160, pl199, pl200, pl201, pl255, pl305, pl600, pl999, pl1000, pl2400, pl2480, pl2681, pl2682, pl2683, pl2684, pl2685, pl9999, pl100000, pl1000000, pk_mul, nI_add, pk_sub, nI_clamp, nI_eq, nI_leI, nI_ltI, pk_div, pn_rem, pu_ck, Option.bind_some, if_pos, if_neg, and_true, true_and, if_true, if_false]
theorem r_orderCell {r : Nat → Int32} {p x y : Nat} (h1 : r 0 = nI p) (h2 : r 1 = nI x) (h3 : r 2 = nI y) : f_X11_cellOfOrder 5 r = some (nI (16 * p + 4 * y + x)) := by
  rw [f_X11_cellOfOrder, f_X11_cellOf]
  simp -implicitDefEqProofs (disch := omega) only [pl0, pl1, pl2, pl3, pl4, pl5, pl6, pl7, pl8, pl9, pl10, pl11, pl12, pl13, pl14, pl15, pl16, pl17, pl18, pl19, pl20, pl21, pl22, pl23, pl24, pl25, pl26, pl27, pl28, pl29, pl30, pl31, pl32, pl48, pl57, pl60, pl61, pl80, pl97, pl99, pl100, pl122, pl150, pl160, pl199, pl200, pl201, pl255, pl305, pl600, pl999, pl1000, pl2400, pl2480, pl2681, pl2682, pl2683, pl2684, pl2685, pl9999, pl100000, pl1000000, pk_mul, nI_add, pk_sub, nI_clamp, nI_eq, nI_leI, nI_ltI, pk_div, pn_rem, pu_ck, Option.bind_some, if_pos, if_neg, and_true, true_and, if_true, if_false, h1, h2, h3]
def stO (dp fd : Nat → Nat) (dy c d u : Nat) (b : Int32) : Int32 :=
  if dy < d then 0 else if u < dy then (if b = 1 then 1 else 2) else if dy = u ∧ bhn dp fd c 0 = d then 1 else if hv dp fd c d = true then 0 else 3
theorem p_orderState {np hd : Nat} {W H : Nat → Nat} {G : GC} {row : Nat → Int32} {dp fd : Nat → Nat} {dy : Nat} (h : PzG np hd W H G row dp fd dy) (h30 : hd ≤ 30) (hn : np ≤ 5) {s : CX6} {od : Nat → Nat → Int32} {o p x y d u : Nat} (ho : o < 12) (hp : p < np) (hx : x < 4) (hy : y < 4) (hd1 : 1 ≤ d) (hdu : d ≤ u) (hu : u ≤ 200) (e0 : s.2.2.2.2.2.2.2.2.2.2.2.2 (5 * o) = nI p) (e1 : s.2.2.2.2.2.2.2.2.2.2.2.2 (5 * o + 1) = nI x) (e2 : s.2.2.2.2.2.2.2.2.2.2.2.2 (5 * o + 2) = nI y) (e3 : s.2.2.2.2.2.2.2.2.2.2.2.2 (5 * o + 3) = nI d) (e4 : s.2.2.2.2.2.2.2.2.2.2.2.2 (5 * o + 4) = nI u) :
    f_X10_orderState s.2.2.2.2.2.2.2.2.2.2.2.2 G.2.1 G.2.2.2.2.1 G.2.2.2.2.2.1 G.2.2.2.2.2.2.1 (nI o) = some (stO dp fd dy (16 * p + 4 * y + x) d u ((row 2682 >>> (nI o &&& 31)) &&& 1)) := by
  have hc : 16 * p + 4 * y + x < 80 := by omega
  have hy2 := h.2.2.1
  have hs := bhn_le h hc 0
  have hvo := hv_oN h h30 (d := d) hc
  rw [f_X10_orderState, p_orderCell (np := np) (W := W) (H := H) (od := od) ho e0 e1 e2, Option.bind_some, pl3, p_part ho (by omega), Option.bind_some, pl4, p_part ho (by omega), Option.bind_some, e3, e4, hy2.2.1, p_shownG h h30 hc, Option.bind_some, f_X10_orderState_b87, p_out h h30 hc (by omega), h.2.2.2.2.2.2.1, stO]
  by_cases h0 : dy < d
  · rw [if_pos (nI_le (by omega) (by omega)), if_neg (by rw [nI_eq (by omega) (by omega)]; omega), if_pos (nI_lt h0 (by omega)), if_pos h0]
  · rw [if_neg h0]
    by_cases h1 : u < dy
    · rw [if_neg (nI_ge h1 (by omega)), if_pos h1]
      by_cases h2 : (row 2682 >>> (nI o &&& 31)) &&& 1 = 1
      · rw [if_pos h2, if_pos h2]
      · rw [if_neg h2, if_neg h2]
    · rw [if_pos (nI_le (by omega) (by omega)), if_neg h1, if_neg (nI_nlt (by omega) (by omega)), Option.bind_some]
      have hlast : (if oN (bhn dp fd (16 * p + 4 * y + x)) d (dp (16 * p + 4 * y + x)) 0 = -1 then some 3 else some 0) = some (if hv dp fd (16 * p + 4 * y + x) d = true then (0 : Int32) else 3) := by
        cases h2 : hv dp fd (16 * p + 4 * y + x) d with
        | false =>
          rw [if_pos (hvo.mpr h2), if_neg (by decide)]
        | true =>
          rw [if_neg (fun h3 => by rw [hvo.mp h3] at h2; cases h2), if_pos rfl]
      rw [hlast]
      by_cases h2 : dy = u
      · rw [if_pos (by rw [h2])]
        by_cases h3 : bhn dp fd (16 * p + 4 * y + x) 0 = d
        · rw [if_pos (by rw [h3]), if_pos (show dy = u ∧ bhn dp fd (16 * p + 4 * y + x) 0 = d from ⟨h2, h3⟩)]
        · rw [if_neg (by rw [nI_eq (by omega) (by omega)]; exact h3), if_neg (show ¬ (dy = u ∧ bhn dp fd (16 * p + 4 * y + x) 0 = d) from fun h4 => h3 h4.2)]
      · rw [if_neg (by rw [nI_eq (by omega) (by omega)]; exact h2), if_neg (show ¬ (dy = u ∧ bhn dp fd (16 * p + 4 * y + x) 0 = d) from fun h4 => h2 h4.1)]
theorem r_stateOf {np hd : Nat} {W H : Nat → Nat} {G : GC} {row : Nat → Int32} {dp fd : Nat → Nat} {dy : Nat} (h : PzG np hd W H G row dp fd dy) (h30 : hd ≤ 30) (hn : np ≤ 5) {od : Nat → Nat → Int32} {o p x y d u : Nat} (ho : o < 12) (hp : p < np) (hx : x < 4) (hy : y < 4) (hd1 : 1 ≤ d) (hdu : d ≤ u) (hu : u ≤ 200) (e0 : od o 0 = nI p) (e1 : od o 1 = nI x) (e2 : od o 2 = nI y) (e3 : od o 3 = nI d) (e4 : od o 4 = nI u) :
    f_X11_stateOf row od (nI o) = some (stO dp fd dy (16 * p + 4 * y + x) d u ((row 2682 >>> (nI o &&& 31)) &&& 1)) := by
  have hc : 16 * p + 4 * y + x < 80 := by omega
  have hy2 := h.2.2.1
  have hs := bhn_le h hc 0
  have hck : ∀ {R : Type} (k : Option R), ck (nI o) 12 k = k := fun k => pu_ck ho (by omega)
  have hcl : (nI o).toNatClampNeg = o := nI_clamp (by omega)
  simp -implicitDefEqProofs only [f_X11_stateOf, f_X11_stateOf_b94, f_X11_isShown, hck, hcl, show ((3 : Int32).toNatClampNeg) = 3 from rfl, show ((4 : Int32).toNatClampNeg) = 4 from rfl, show ((2684 : Int32).toNatClampNeg) = 2684 from rfl, show ((2682 : Int32).toNatClampNeg) = 2682 from rfl, r_orderCell e0 e1 e2, Option.bind_some, e3, e4, hy2.2.2, r_onCell h h30 hc (show d ≤ 200 by omega), stO, f_X11_has]
  rw [show (0 : Int32) = nI 0 from rfl, r_filmG h h30 hc (by omega), Option.bind_some]
  by_cases h0 : dy < d
  · rw [if_neg (nI_ge (by omega) (by omega)), if_pos h0]
  · rw [if_neg h0, if_pos (nI_le (by omega) (by omega))]
    by_cases h1 : u < dy
    · rw [if_neg (nI_ge h1 (by omega)), if_pos h1]
      by_cases h2 : (row 2682 >>> (nI o &&& 31)) &&& 1 = 1
      · rw [if_pos h2, if_pos h2]
        rfl
      · rw [if_neg h2, if_neg h2]
        rfl
    · rw [if_pos (nI_le (by omega) (by omega)), if_neg h1]
      have hlast : (if nI (hv dp fd (16 * p + 4 * y + x) d).toNat = nI 0 then some 3 else some (nI 0)) = some (if hv dp fd (16 * p + 4 * y + x) d = true then (0 : Int32) else 3) := by
        cases h2 : hv dp fd (16 * p + 4 * y + x) d with
        | false =>
          rfl
        | true =>
          rfl
      rw [hlast]
      by_cases h2 : dy = u
      · rw [if_pos (by rw [h2])]
        by_cases h3 : bhn dp fd (16 * p + 4 * y + x) 0 = d
        · rw [if_pos (by rw [h3]), if_pos (show dy = u ∧ bhn dp fd (16 * p + 4 * y + x) 0 = d from ⟨h2, h3⟩)]
          rfl
        · rw [if_neg (by rw [nI_eq (by omega) (by omega)]; exact h3), if_neg (show ¬ (dy = u ∧ bhn dp fd (16 * p + 4 * y + x) 0 = d) from fun h4 => h3 h4.2)]
          rfl
      · rw [if_neg (by rw [nI_eq (by omega) (by omega)]; exact h2), if_neg (show ¬ (dy = u ∧ bhn dp fd (16 * p + 4 * y + x) 0 = d) from fun h4 => h2 h4.1)]
        rfl
theorem pz_state {np no hd : Nat} {W H : Nat → Nat} {s : CX6} {to : Nat → Int32} {pa ra od : Nat → Nat → Int32} (hS : PzS np no hd W H s to pa ra od) {G : GC} {row : Nat → Int32} {dp fd : Nat → Nat} {dy : Nat} (h : PzG np hd W H G row dp fd dy) {o : Nat} (ho : o < no) : ∃ r, f_X10_orderState s.2.2.2.2.2.2.2.2.2.2.2.2 G.2.1 G.2.2.2.2.1 G.2.2.2.2.2.1 G.2.2.2.2.2.2.1 (nI o) = some r ∧ f_X11_stateOf row od (nI o) = some r := by
  obtain ⟨h5, h12, ⟨-, h30⟩, -, -, -, -, -, -, hN, hO⟩ := hS
  obtain ⟨p, x, y, d, u, hp, hx, hy, hd1, hdu, hu, ⟨a0, b0⟩, ⟨a1, b1⟩, ⟨a2, b2⟩, ⟨a3, b3⟩, ⟨a4, b4⟩⟩ := hO o ho
  obtain ⟨⟨-, w4⟩, ⟨-, h4⟩, -⟩ := hN p hp
  exact ⟨_, p_orderState (od := od) h h30 h5 (by omega) hp (by omega) (by omega) hd1 hdu hu a0 a1 a2 a3 a4, r_stateOf h h30 h5 (by omega) hp (by omega) (by omega) hd1 hdu hu b0 b1 b2 b3 b4⟩
theorem a_order {C : CS} {R : RS} (hc : PzC C R) (x1 x2 : Int32) :
    (∃ r, fC_order C x1 x2 = some (0, r, C.v15) ∧ fR_order R x1 x2 = some (r, 0, R.v10)) ∨
    (fC_order C x1 x2 = some (2, 0, upd C.v15 1 (C.v15 1 + 1)) ∧ fR_order R x1 x2 = some (0, 1, upd R.v10 1 (R.v10 1 + 1))) ∨
    (fC_order C x1 x2 = some (1, 0, upd C.v15 2 (C.v15 2 + 1)) ∧ fR_order R x1 x2 = some (0, 2, upd R.v10 2 (R.v10 2 + 1))) := by
  obtain ⟨np, no, hd, W, H, hS, ⟨dp, fd, dy, hG⟩, -⟩ := hc
  rcases pz_order hS C.v15 x1 with ⟨h1, h2⟩ | ⟨o, ho, ho12, rfl, h1, h2⟩
  · exact .inr (.inl ⟨by simp -implicitDefEqProofs only [Option.bind_some, pz10, if_true, if_false, eq_self, ↓reduceIte, r_bad0, r_A1, r_A2, r_B1, r_B2, r_B3, r_C1, fC_order, f_X10_order, h1]; rfl, by simp -implicitDefEqProofs only [Option.bind_some, pz10, if_true, if_false, eq_self, ↓reduceIte, r_bad0, r_A1, r_A2, r_B1, r_B2, r_B3, r_C1, fR_order, f_X11_order, h2, f_X11_order_b19]⟩)
  · rcases pz_what C.v15 x2 5 (by omega) with ⟨h3, h4⟩ | ⟨a, ha, rfl, h3, h4⟩
    · rw [← pl5] at h3 h4
      exact .inr (.inr ⟨by simp -implicitDefEqProofs only [Option.bind_some, pz10, if_true, if_false, eq_self, ↓reduceIte, r_bad0, r_A1, r_A2, r_B1, r_B2, r_B3, r_C1, fC_order, f_X10_order, h1, h3]; rfl, by simp -implicitDefEqProofs only [Option.bind_some, pz10, if_true, if_false, eq_self, ↓reduceIte, r_bad0, r_A1, r_A2, r_B1, r_B2, r_B3, r_C1, fR_order, f_X11_order, h2, f_X11_order_b19, f_X11_order_b42, h4]⟩)
    · rw [← pl5] at h3 h4
      by_cases h5 : a = 5
      · subst h5
        obtain ⟨r, e1, e2⟩ := pz_state hS hG ho
        refine .inl ⟨r, ?_, ?_⟩
        · simp -implicitDefEqProofs only [Option.bind_some, pz10, if_true, if_false, eq_self, ↓reduceIte, r_bad0, r_A1, r_A2, r_B1, r_B2, r_B3, r_C1, fC_order, f_X10_order, h1, h3, e1]
          rw [if_pos (by decide)]
        · simp -implicitDefEqProofs only [Option.bind_some, pz10, if_true, if_false, eq_self, ↓reduceIte, r_bad0, r_A1, r_A2, r_B1, r_B2, r_B3, r_C1, fR_order, f_X11_order, h2, f_X11_order_b19, f_X11_order_b42, h4, e2]
          rw [if_pos (by decide)]
      · obtain ⟨p, x, y, d, u, hp, hx, hy, hd1, hdu, hu, ⟨a0, b0⟩, ⟨a1, b1⟩, ⟨a2, b2⟩, ⟨a3, b3⟩, ⟨a4, b4⟩⟩ := hS.2.2.2.2.2.2.2.2.2.2 o ho
        have e : C.s1.2.2.2.2.2.2.2.2.2.2.2.2 (5 * o + a) = R.g18 o a := by
          have h6 : a = 0 ∨ a = 1 ∨ a = 2 ∨ a = 3 ∨ a = 4 := by omega
          rcases h6 with rfl | rfl | rfl | rfl | rfl
          · rw [Nat.add_zero, a0, b0]
          · rw [a1, b1]
          · rw [a2, b2]
          · rw [a3, b3]
          · rw [a4, b4]
        refine .inl ⟨R.g18 o a, ?_, ?_⟩
        · simp -implicitDefEqProofs only [Option.bind_some, pz10, if_true, if_false, eq_self, ↓reduceIte, r_bad0, r_A1, r_A2, r_B1, r_B2, r_B3, r_C1, fC_order, f_X10_order, h1, h3, p_part ho12 (show a < 5 by omega)]
          rw [if_neg (by rw [pl5, nI_eq (by omega) (by omega)]; exact h5), e]
        · simp -implicitDefEqProofs only [Option.bind_some, pz10, if_true, if_false, eq_self, ↓reduceIte, r_bad0, r_A1, r_A2, r_B1, r_B2, r_B3, r_C1, fR_order, f_X11_order, h2, f_X11_order_b19, f_X11_order_b42, h4]
          rw [if_neg (by rw [pl5]; exact nI_ge (by omega) (by omega)), pu_ck ho12 (by omega), pu_ck (by omega) (by omega), nI_clamp (by omega), nI_clamp (by omega)]
theorem q_order {L i : Nat} {C : CS} {R : RS} {cells slots : Nat} (h : PzInv L i C R cells slots) (hi : i + 7 ≤ L) (x1 x2 : Int32) : pS_order (PzInv L (i + 7)) C R x1 x2 cells slots := by
  rcases a_order h.2.1 x1 x2 with ⟨r, h1, h2⟩ | ⟨h1, h2⟩ | ⟨h1, h2⟩
  · exact ⟨(0, r, C.v15), (r, 0, R.v10), h1, h2, .inl rfl, rfl, fun _ => rfl, pz_fit h (by omega) (by omega), h.keep hi (by omega) (by omega) h.1⟩
  · exact ⟨(2, 0, upd C.v15 1 (C.v15 1 + 1)), (0, 1, upd R.v10 1 (R.v10 1 + 1)), h1, h2, .inr (.inl rfl), rfl, fun _ => rfl, pz_fit h (by omega) (by omega), h.keep hi (by omega) (by omega) h.1.up⟩
  · exact ⟨(1, 0, upd C.v15 2 (C.v15 2 + 1)), (0, 2, upd R.v10 2 (R.v10 2 + 1)), h1, h2, .inr (.inr rfl), rfl, fun _ => rfl, pz_fit h (by omega) (by omega), h.keep hi (by omega) (by omega) h.1.up⟩
theorem a_needs {C : CS} {R : RS} (hc : PzC C R) (x1 : Int32) :
    (∃ r, fC_needs C x1 = some (0, r, C.v15) ∧ fR_needs R x1 = some (r, 0, R.v10)) ∨
    (fC_needs C x1 = some (2, 0, upd C.v15 1 (C.v15 1 + 1)) ∧ fR_needs R x1 = some (0, 1, upd R.v10 1 (R.v10 1 + 1))) := by
  obtain ⟨np, no, hd, W, H, hS, ⟨dp, fd, dy, hG⟩, -⟩ := hc
  have h30 := hS.2.2.1.2
  have h5 := hS.1
  rcases pz_order hS C.v15 x1 with ⟨h1, h2⟩ | ⟨o, ho, ho12, rfl, h1, h2⟩
  · exact .inr ⟨by simp -implicitDefEqProofs only [Option.bind_some, pz10, if_true, if_false, eq_self, ↓reduceIte, r_bad0, r_A1, r_A2, r_B1, r_B2, r_B3, r_C1, fC_needs, f_X10_needs, h1]; rfl, by simp -implicitDefEqProofs only [Option.bind_some, pz10, if_true, if_false, eq_self, ↓reduceIte, r_bad0, r_A1, r_A2, r_B1, r_B2, r_B3, r_C1, fR_needs, f_X11_needs, h2, f_X11_needs_b19]⟩
  · obtain ⟨p, x, y, d, u, hp, hx, hy, hd1, hdu, hu, ⟨a0, b0⟩, ⟨a1, b1⟩, ⟨a2, b2⟩, ⟨a3, b3⟩, ⟨a4, b4⟩⟩ := hS.2.2.2.2.2.2.2.2.2.2 o ho
    obtain ⟨⟨-, w4⟩, ⟨-, h4⟩, -⟩ := hS.2.2.2.2.2.2.2.2.2.1 p hp
    have hc : 16 * p + 4 * y + x < 80 := by omega
    refine .inl ⟨oN (bhn dp fd (16 * p + 4 * y + x)) d (dp (16 * p + 4 * y + x)) 0, ?_, ?_⟩
    · have e3 : f_X6_part C.s1.2.2.2.2.2.2.2.2.2.2.2.2 (nI o) 3 = some (nI d) := by rw [pl3, p_part ho12 (by omega), a3]
      simp -implicitDefEqProofs only [Option.bind_some, pz10, if_true, if_false, eq_self, ↓reduceIte, r_bad0, r_A1, r_A2, r_B1, r_B2, r_B3, r_C1, fC_needs, f_X10_needs, h1, p_orderCell (np := np) (W := W) (H := H) (od := R.g18) ho12 a0 a1 a2, e3, p_out hG h30 hc (show d ≤ 200 by omega)]
    · simp -implicitDefEqProofs only [Option.bind_some, pz10, if_true, if_false, eq_self, ↓reduceIte, r_bad0, r_A1, r_A2, r_B1, r_B2, r_B3, r_C1, fR_needs, f_X11_needs, h2, f_X11_needs_b19]
      rw [pu_ck ho12 (by omega), nI_clamp (by omega), r_orderCell b0 b1 b2, Option.bind_some, pu_ck ho12 (by omega), show ((3 : Int32).toNatClampNeg) = 3 from rfl, b3, r_out hG h30 hc (by omega)]
      rfl
theorem q_needs {L i : Nat} {C : CS} {R : RS} {cells slots : Nat} (h : PzInv L i C R cells slots) (hi : i + 7 ≤ L) (x1 : Int32) : pS_needs (PzInv L (i + 7)) C R x1 cells slots := by
  rcases a_needs h.2.1 x1 with ⟨r, h1, h2⟩ | ⟨h1, h2⟩
  · exact ⟨(0, r, C.v15), (r, 0, R.v10), h1, h2, .inl rfl, rfl, fun _ => rfl, pz_fit h (by omega) (by omega), h.keep hi (by omega) (by omega) h.1⟩
  · exact ⟨(2, 0, upd C.v15 1 (C.v15 1 + 1)), (0, 1, upd R.v10 1 (R.v10 1 + 1)), h1, h2, .inr rfl, rfl, fun _ => rfl, pz_fit h (by omega) (by omega), h.keep hi (by omega) (by omega) h.1.up⟩
theorem pz_lost_b {np no hd : Nat} {W H : Nat → Nat} {s : CX6} {to : Nat → Int32} {pa ra od : Nat → Nat → Int32} (hS : PzS np no hd W H s to pa ra od) {G : GC} {row : Nat → Int32} {dp fd : Nat → Nat} {dy : Nat} (h : PzG np hd W H G row dp fd dy) : ∀ (m i q : Nat), i + m = no → m < q → ∃ r, f_X10_lost_b2 s.2.2.1 s.2.2.2.2.2.2.2.2.2.2.2.2 G.2.1 G.2.2.2.2.1 G.2.2.2.2.2.1 G.2.2.2.2.2.2.1 q (nI i) = some r ∧ f_X11_lost_b7 to row od q 0 (nI i) = some (r, 0) := by
  have hn : no ≤ 12 := hS.2.1
  have hs1 : s.2.2.1 = nI no := hS.2.2.2.2.1.1
  have hs2 : to ((1 : Int32).toNatClampNeg) = nI no := hS.2.2.2.2.1.2
  intro m
  induction m with
  | zero =>
    intro i q hi hq
    obtain ⟨q, rfl⟩ : ∃ r, q = r + 1 := ⟨q - 1, by omega⟩
    rw [f_X10_lost_b2, f_X11_lost_b7, if_pos (by rw [hs1]; exact nI_le (by omega) (by omega)), if_pos (by rw [hs2]; exact nI_le (by omega) (by omega))]
    exact ⟨_, rfl, rfl⟩
  | succ m ih =>
    intro i q hi hq
    obtain ⟨q, rfl⟩ : ∃ r, q = r + 1 := ⟨q - 1, by omega⟩
    obtain ⟨r, e1, e2⟩ := pz_state hS h (o := i) (by omega)
    rw [f_X10_lost_b2, f_X11_lost_b7, if_neg (by rw [hs1]; exact nI_ge (by omega) (by omega)), if_neg (by rw [hs2]; exact nI_ge (by omega) (by omega)), e1, e2, Option.bind_some, Option.bind_some, nI_1]
    by_cases h0 : r < 2
    · have h1 : r ≤ 1 := by
        rw [Int32.le_iff_toInt_le]
        rw [Int32.lt_iff_toInt_lt] at h0
        have e3 : (2 : Int32).toInt = 2 := rfl
        have e4 : (1 : Int32).toInt = 1 := rfl
        omega
      rw [if_pos h0, if_pos h1]
      exact ih (i + 1) q (by omega) (by omega)
    · have h1 : ¬ r ≤ 1 := by
        rw [Int32.le_iff_toInt_le]
        rw [Int32.lt_iff_toInt_lt] at h0
        have e3 : (2 : Int32).toInt = 2 := rfl
        have e4 : (1 : Int32).toInt = 1 := rfl
        omega
      rw [if_neg h0, if_neg h1]
      exact ⟨_, rfl, rfl⟩
theorem q_lost {L i : Nat} {C : CS} {R : RS} {cells slots : Nat} (h : PzInv L i C R cells slots) (hi : i + 7 ≤ L) : pS_lost (PzInv L (i + 7)) C R cells slots := by
  have hc := h.2.1
  obtain ⟨np, no, hd, W, H, hS, ⟨dp, fd, dy, hG⟩, -⟩ := hc
  have h12 : no ≤ 12 := hS.2.1
  obtain ⟨r, e1, e2⟩ := pz_lost_b hS hG no 0 4000 (by omega) (by omega)
  rw [← pl0] at e1 e2
  exact ⟨r, (r, 0), e1, e2, rfl, pz_fit h (by omega) (by omega), h.keep hi (by omega) (by omega) h.1⟩
