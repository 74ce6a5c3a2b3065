/-! queries: have, showing, films -/
theorem pz_rng (x : Int32) (a b : Nat) (hab : a ≤ b) (hb : b < 2 ^ 30) : (x < nI a ∨ nI b < x) ∨ ∃ k, a ≤ k ∧ k ≤ b ∧ x = nI k := by
  rcases pz_ix2 x (n := b) hb with (h | h) | ⟨j, h1, rfl⟩
  · exact .inl (.inl (Int32.lt_of_lt_of_le h (nI_pos' (by omega))))
  · exact .inl (.inr h)
  · by_cases h2 : j < a
    · exact .inl (.inl (nI_lt h2 (by omega)))
    · exact .inr ⟨j, by omega, h1, rfl⟩
theorem p_having_b {np hd : Nat} {W H : Nat → Nat} {G : GC} {row : Nat → Int32} {dp fd : Nat → Nat} {dy : Nat} (h : PzG np hd W H G row dp fd dy) (h30 : hd ≤ 30) {p d : Nat} (hp : p < 5) (hd2 : d ≤ 200) : ∀ (m i q acc : Nat), i + m = 16 → m < q → f_X1_cellsHaving_b6 G.2.2.2.2.2.1 G.2.2.2.2.2.2.1 q (nI p) (nI d) (nI acc) (nI i) = some (nI (bF (fun i => hv dp fd (16 * p + i) d) m i acc)) := by
  intro m
  induction m with
  | zero =>
    intro i q acc hi hq
    obtain ⟨q, rfl⟩ : ∃ r, q = r + 1 := ⟨q - 1, by omega⟩
    rw [f_X1_cellsHaving_b6]
    simp -implicitDefEqProofs (disch := omega) only [pl0, pl1, pl2, pl3, pl4, pl5, pl6, pl7, pl8, pl9, pl10, pl11, pl12, pl13, pl14, pl15, pl16, pl17, pl18, pl19, pl20, pl21, pl22, pl23, pl24, pl25, pl26, pl27, pl28, pl29, pl30, pl31, pl32, pl48, pl57, pl60, pl61, pl80, pl97, pl99, pl100, pl122, pl150, pl160, pl199, pl200, pl201, pl255, pl305, pl600, pl999, pl1000, pl2400, pl2480, pl2681, pl2682, pl2683, pl2684, pl2685, pl9999, pl100000, pl1000000, pk_mul, nI_add, pk_sub, nI_clamp, nI_eq, nI_leI, nI_ltI, pk_div, pn_rem, pu_ck, Option.bind_some, if_pos, if_neg, and_true, true_and, if_true, if_false, bF]
  | succ m ih =>
    intro i q acc hi hq
    obtain ⟨q, rfl⟩ : ∃ r, q = r + 1 := ⟨q - 1, by omega⟩
    have h1 := hv_oN h h30 (c := 16 * p + i) (d := d) (by omega)
    rw [f_X1_cellsHaving_b6, pl16, if_neg (nI_ge (by omega) (by omega)), pk_mul, nI_add, p_out h h30 (by omega) hd2, Option.bind_some, f_X1_cellsHaving_b38, f_X1_cellsHaving_b38, bF, nI_1]
    cases h2 : hv dp fd (16 * p + i) d with
    | false =>
      rw [if_pos (h1.mpr h2), if_neg (by decide)]
      exact ih (i + 1) q acc (by omega) (by omega)
    | true =>
      rw [if_neg (fun h3 => by rw [h1.mp h3] at h2; cases h2), if_pos rfl, pl1, pl31, pn_shl (by omega), pz_or]
      exact ih (i + 1) q _ (by omega) (by omega)
theorem r_having_b {np hd : Nat} {W H : Nat → Nat} {G : GC} {to row v : Nat → Int32} {dp fd : Nat → Nat} {dy : Nat} (h : PzG np hd W H G row dp fd dy) (h30 : hd ≤ 30) {p d : Nat} (hp : p < 5) (hd2 : d ≤ 200) : ∀ (m i q acc : Nat), i + m = 16 → m < q → f_X11_have_b59 to row q 0 v (nI p) (nI d) (nI acc) (nI i) = some (nI (bF (fun i => hv dp fd (16 * p + i) d) m i acc), 0, v) := by
  intro m
  induction m with
  | zero =>
    intro i q acc hi hq
    obtain ⟨q, rfl⟩ : ∃ r, q = r + 1 := ⟨q - 1, by omega⟩
    rw [f_X11_have_b59, pl16, if_pos (nI_le (by omega) (by omega)), bF]
  | succ m ih =>
    intro i q acc hi hq
    obtain ⟨q, rfl⟩ : ∃ r, q = r + 1 := ⟨q - 1, by omega⟩
    rw [f_X11_have_b59, pl16, if_neg (nI_ge (by omega) (by omega)), pk_mul, nI_add, r_onCell h h30 (by omega) hd2, Option.bind_some, f_X11_have_b93, f_X11_have_b93, bF, nI_1]
    cases h2 : hv dp fd (16 * p + i) d with
    | false =>
      rw [if_pos (by decide), if_neg (by decide), show nI acc ||| (0 : Int32) = nI acc by rw [pl0, pz_or, Nat.or_zero]]
      exact ih (i + 1) q acc (by omega) (by omega)
    | true =>
      rw [if_neg (by decide), if_pos rfl, pl1, pl31, pn_shl (by omega), pz_or]
      exact ih (i + 1) q _ (by omega) (by omega)
theorem a_have {C : CS} {R : RS} (hc : PzC C R) (x1 x2 : Int32) :
    (∃ r, fC_have C x1 x2 = some (0, r, C.v15) ∧ fR_have R x1 x2 = some (r, 0, R.v10)) ∨
    (fC_have C x1 x2 = some (2, 0, upd C.v15 1 (C.v15 1 + 1)) ∧ fR_have R x1 x2 = some (0, 1, upd R.v10 1 (R.v10 1 + 1))) ∨
    (fC_have C x1 x2 = some (1, 0, upd C.v15 2 (C.v15 2 + 1)) ∧ fR_have R x1 x2 = some (0, 2, upd R.v10 2 (R.v10 2 + 1))) := by
  obtain ⟨np, no, hd, W, H, hS, ⟨dp, fd, dy, hG⟩, -⟩ := hc
  have h30 := hS.2.2.1.2
  rcases pz_pane hS C.v15 x1 with ⟨h1, h2⟩ | ⟨p, hp, hp5, rfl, h1, h2⟩
  · exact .inr (.inl ⟨by simp -implicitDefEqProofs only [Option.bind_some, pz10, if_true, if_false, eq_self, ↓reduceIte, r_bad0, r_A1, r_A2, r_B1, r_B2, r_B3, r_C1, fC_have, f_X10_have, h1]; rfl, by simp -implicitDefEqProofs only [Option.bind_some, pz10, if_true, if_false, eq_self, ↓reduceIte, r_bad0, r_A1, r_A2, r_B1, r_B2, r_B3, r_C1, fR_have, f_X11_have, h2, f_X11_have_b19]⟩)
  · rcases pz_rng x2 1 200 (by omega) (by omega) with hb | ⟨d, hd1, hd2, rfl⟩
    · have hr := r_inNo hb
      rw [← pl1, ← pl200] at hb hr
      refine .inr (.inr ⟨?_, by simp -implicitDefEqProofs only [Option.bind_some, pz10, if_true, if_false, eq_self, ↓reduceIte, r_bad0, r_A1, r_A2, r_B1, r_B2, r_B3, r_C1, fR_have, f_X11_have, h2, f_X11_have_b19, f_X11_have_b44, hr]⟩)
      by_cases h0 : x2 < 1
      · simp -implicitDefEqProofs only [Option.bind_some, pz10, if_true, if_false, eq_self, ↓reduceIte, r_bad0, r_A1, r_A2, r_B1, r_B2, r_B3, r_C1, fC_have, f_X10_have, h1, h0, f_X10_have_b22, f_X10_have_b23, p_need0]
        rfl
      · rcases hb with hb | hb
        · exact absurd hb h0
        · simp -implicitDefEqProofs only [Option.bind_some, pz10, if_true, if_false, eq_self, ↓reduceIte, r_bad0, r_A1, r_A2, r_B1, r_B2, r_B3, r_C1, fC_have, f_X10_have, h1, h0, hb, f_X10_have_b22, f_X10_have_b23, p_need0]
          rfl
    · have hr := r_inOk hd1 hd2 (by omega)
      rw [← pl1, ← pl200] at hr
      have hl : ¬ nI d < 1 := nI_nlt (b := 1) hd1 (by omega)
      have hl2 : ¬ (200 : Int32) < nI d := nI_nlt (a := 200) hd2 (by omega)
      refine .inl ⟨nI (bF (fun i => hv dp fd (16 * p + i) d) 16 0 0), ?_, ?_⟩
      · simp -implicitDefEqProofs only [Option.bind_some, pz10, if_true, if_false, eq_self, ↓reduceIte, r_bad0, r_A1, r_A2, r_B1, r_B2, r_B3, r_C1, fC_have, f_X10_have, h1, hl, hl2, f_X10_have_b23, p_need1, f_X1_cellsHaving]
        rw [pl0, p_having_b hG h30 hp5 hd2 16 0 4000 0 (by omega) (by omega)]
        rfl
      · simp -implicitDefEqProofs only [Option.bind_some, pz10, if_true, if_false, eq_self, ↓reduceIte, r_bad0, r_A1, r_A2, r_B1, r_B2, r_B3, r_C1, fR_have, f_X11_have, h2, f_X11_have_b19, f_X11_have_b44, hr]
        have e := r_having_b (to := R.v12) (v := R.v10) hG h30 hp5 hd2 16 0 4000 0 (by omega) (by omega)
        rw [← pl0] at e
        exact e
theorem q_have {L i : Nat} {C : CS} {R : RS} {cells slots : Nat} (h : PzInv L i C R cells slots) (hi : i + 7 ≤ L) (x1 x2 : Int32) : pS_have (PzInv L (i + 7)) C R x1 x2 cells slots := by
  rcases a_have h.2.1 x1 x2 with ⟨r, h1, h2⟩ | ⟨h1, h2⟩ | ⟨h1, h2⟩
  · exact ⟨(0, r, C.v15), (r, 0, R.v10), h1, h2, .inl rfl, rfl, fun _ => rfl, pz_fit h (by omega) (by omega), h.keep hi (by omega) (by omega) h.1⟩
  · exact ⟨(2, 0, upd C.v15 1 (C.v15 1 + 1)), (0, 1, upd R.v10 1 (R.v10 1 + 1)), h1, h2, .inr (.inl rfl), rfl, fun _ => rfl, pz_fit h (by omega) (by omega), h.keep hi (by omega) (by omega) h.1.up⟩
  · exact ⟨(1, 0, upd C.v15 2 (C.v15 2 + 1)), (0, 2, upd R.v10 2 (R.v10 2 + 1)), h1, h2, .inr (.inr rfl), rfl, fun _ => rfl, pz_fit h (by omega) (by omega), h.keep hi (by omega) (by omega) h.1.up⟩
/-- place i of a pane of w times h is a cell -/
def inC (w h i : Nat) : Bool := decide (i % 4 < w) && decide (i / 4 < h)
theorem inC_cb {w h i : Nat} (hw : w ≤ 4) (hh : h ≤ 4) (hi : i < 32) : (pzcb w h).testBit i = inC w h i := by
  rw [Bool.eq_iff_iff, pzcb_tb w hw h hh i hi, inC, Bool.and_eq_true, decide_eq_true_iff, decide_eq_true_iff]
theorem r_isOf {W H : Nat → Nat} {s : CX6} {pa : Nat → Nat → Int32} {p i : Nat} (hN : PzN W H s pa p) (hp : p < 5) (hi : i < 16) : f_X11_isOf pa (nI p) (nI i) = some (if inC (W p) (H p) i = true then 1 else 0) := by
  obtain ⟨⟨-, w4⟩, ⟨-, h4⟩, -, e2, -, e4, -⟩ := hN
  rw [f_X11_isOf, pl4, pk_rem (by omega) (by omega) (by omega), pk_div (by omega) (by omega) (by omega)]
  by_cases h1 : i % 4 < W p
  · by_cases h2 : i / 4 < H p
    · rw [r_isCellOk hp e2 e4 h1 h2 w4 h4, if_pos (by simp [inC, h1, h2])]
      rfl
    · rw [r_isCellNo hp e2 e4 w4 h4 (.inr (.inr (nI_le (by omega) (by omega)))), if_neg (by simp [inC, h2])]
      rfl
  · rw [r_isCellNo hp e2 e4 w4 h4 (.inl (.inr (nI_le (by omega) (by omega)))), if_neg (by simp [inC, h1])]
    rfl
theorem p_showing_b {np hd : Nat} {W H : Nat → Nat} {G : GC} {row : Nat → Int32} {dp fd : Nat → Nat} {dy : Nat} (h : PzG np hd W H G row dp fd dy) (h30 : hd ≤ 30) {p d ce : Nat} (hp : p < 5) (hd2 : d ≤ 200) : ∀ (m i q acc : Nat), i + m = 16 → m < q → f_X1_cellsShowing_b6 G.2.2.2.2.2.1 G.2.2.2.2.2.2.1 q (nI p) (nI ce) (nI d) (nI acc) (nI i) = some (nI (bF (fun i => bhn dp fd (16 * p + i) 0 == d) m i acc &&& ce)) := by
  intro m
  induction m with
  | zero =>
    intro i q acc hi hq
    obtain ⟨q, rfl⟩ : ∃ r, q = r + 1 := ⟨q - 1, by omega⟩
    rw [f_X1_cellsShowing_b6, pl16, if_pos (nI_le (by omega) (by omega)), bF, pz_and]
  | succ m ih =>
    intro i q acc hi hq
    obtain ⟨q, rfl⟩ : ∃ r, q = r + 1 := ⟨q - 1, by omega⟩
    have h1 := bhn_le h (c := 16 * p + i) (by omega) 0
    rw [f_X1_cellsShowing_b6, pl16, if_neg (nI_ge (by omega) (by omega)), pk_mul, nI_add, p_shownG h h30 (by omega), Option.bind_some, f_X1_cellsShowing_b38, f_X1_cellsShowing_b38, bF, nI_1]
    by_cases h2 : bhn dp fd (16 * p + i) 0 = d
    · rw [if_pos (by rw [h2]), if_pos (by rw [beq_iff_eq]; exact h2), pl1, pl31, pn_shl (by omega), pz_or]
      exact ih (i + 1) q _ (by omega) (by omega)
    · rw [if_neg (by rw [nI_eq (by omega) (by omega)]; exact h2), if_neg (by rw [beq_iff_eq]; exact h2)]
      exact ih (i + 1) q _ (by omega) (by omega)
theorem r_showing_b {np hd : Nat} {W H : Nat → Nat} {G : GC} {s : CX6} {to row v : Nat → Int32} {pa : Nat → Nat → Int32} {dp fd : Nat → Nat} {dy : Nat} (h : PzG np hd W H G row dp fd dy) (h30 : hd ≤ 30) {p d : Nat} (hN : PzN W H s pa p) (hp : p < 5) (hd2 : d ≤ 200) : ∀ (m i q acc : Nat), i + m = 16 → m < q → f_X11_showing_b59 to row pa q 0 v (nI p) (nI d) (nI acc) (nI i) = some (nI (bF (fun i => inC (W p) (H p) i && bhn dp fd (16 * p + i) 0 == d) m i acc), 0, v) := by
  intro m
  induction m with
  | zero =>
    intro i q acc hi hq
    obtain ⟨q, rfl⟩ : ∃ r, q = r + 1 := ⟨q - 1, by omega⟩
    rw [f_X11_showing_b59, pl16, if_pos (nI_le (by omega) (by omega)), bF]
  | succ m ih =>
    intro i q acc hi hq
    obtain ⟨q, rfl⟩ : ∃ r, q = r + 1 := ⟨q - 1, by omega⟩
    have h1 := bhn_le h (c := 16 * p + i) (by omega) 0
    have h0 : nI acc ||| (0 : Int32) = nI acc := by rw [pl0, pz_or, Nat.or_zero]
    rw [f_X11_showing_b59, pl16, if_neg (nI_ge (by omega) (by omega)), r_isOf hN hp (by omega), Option.bind_some, f_X11_showing_b103, f_X11_showing_b104, f_X11_showing_b104, h0, bF, nI_1]
    cases h2 : inC (W p) (H p) i with
    | false =>
      rw [if_pos (by decide), Bool.false_and, if_neg (by decide)]
      exact ih (i + 1) q _ (by omega) (by omega)
    | true =>
      rw [if_neg (by decide), Bool.true_and, pk_mul, nI_add, show (0 : Int32) = nI 0 from rfl, r_filmG h h30 (by omega) (by omega), Option.bind_some]
      by_cases h3 : bhn dp fd (16 * p + i) 0 = d
      · rw [if_pos (by rw [h3]), if_pos (by rw [beq_iff_eq]; exact h3), pl1, pl31, pn_shl (by omega), pz_or]
        exact ih (i + 1) q _ (by omega) (by omega)
      · rw [if_neg (by rw [nI_eq (by omega) (by omega)]; exact h3), if_neg (by rw [beq_iff_eq]; exact h3)]
        exact ih (i + 1) q _ (by omega) (by omega)
theorem bF_and {f g : Nat → Bool} {w h : Nat} (hw : w ≤ 4) (hh : h ≤ 4) (hg : ∀ i, i < 16 → g i = (inC w h i && f i)) : bF f 16 0 0 &&& pzcb w h = bF g 16 0 0 := by
  apply Nat.eq_of_testBit_eq
  intro k
  rw [Nat.testBit_and, bF_tb, bF_tb]
  by_cases hk : k < 16
  · rw [hg k hk, inC_cb hw hh (by omega)]
    simp [hk, Bool.and_comm]
  · simp [hk]
theorem a_showing {C : CS} {R : RS} (hc : PzC C R) (x1 x2 : Int32) :
    (∃ r, fC_showing C x1 x2 = some (0, r, C.v15) ∧ fR_showing R x1 x2 = some (r, 0, R.v10)) ∨
    (fC_showing C x1 x2 = some (2, 0, upd C.v15 1 (C.v15 1 + 1)) ∧ fR_showing R x1 x2 = some (0, 1, upd R.v10 1 (R.v10 1 + 1))) ∨
    (fC_showing C x1 x2 = some (1, 0, upd C.v15 2 (C.v15 2 + 1)) ∧ fR_showing R x1 x2 = some (0, 2, upd R.v10 2 (R.v10 2 + 1))) := by
  obtain ⟨np, no, hd, W, H, hS, ⟨dp, fd, dy, hG⟩, -⟩ := hc
  have h30 := hS.2.2.1.2
  rcases pz_pane hS C.v15 x1 with ⟨h1, h2⟩ | ⟨p, hp, hp5, rfl, h1, h2⟩
  · exact .inr (.inl ⟨by simp -implicitDefEqProofs only [Option.bind_some, pz10, if_true, if_false, eq_self, ↓reduceIte, r_bad0, r_A1, r_A2, r_B1, r_B2, r_B3, r_C1, fC_showing, f_X10_showing, h1]; rfl, by simp -implicitDefEqProofs only [Option.bind_some, pz10, if_true, if_false, eq_self, ↓reduceIte, r_bad0, r_A1, r_A2, r_B1, r_B2, r_B3, r_C1, fR_showing, f_X11_showing, h2, f_X11_showing_b19]⟩)
  · rcases pz_ix2 x2 (n := 200) (by omega) with hb | ⟨d, hd2, rfl⟩
    · have hr := r_inNo hb
      rw [← pl200] at hb hr
      refine .inr (.inr ⟨?_, by simp -implicitDefEqProofs only [Option.bind_some, pz10, if_true, if_false, eq_self, ↓reduceIte, r_bad0, r_A1, r_A2, r_B1, r_B2, r_B3, r_C1, fR_showing, f_X11_showing, h2, f_X11_showing_b19, f_X11_showing_b44, hr]⟩)
      by_cases h0 : x2 < 0
      · simp -implicitDefEqProofs only [Option.bind_some, pz10, if_true, if_false, eq_self, ↓reduceIte, r_bad0, r_A1, r_A2, r_B1, r_B2, r_B3, r_C1, fC_showing, f_X10_showing, h1, h0, f_X10_showing_b21, f_X10_showing_b22, p_need0]
        rfl
      · rcases hb with hb | hb
        · exact absurd hb h0
        · simp -implicitDefEqProofs only [Option.bind_some, pz10, if_true, if_false, eq_self, ↓reduceIte, r_bad0, r_A1, r_A2, r_B1, r_B2, r_B3, r_C1, fC_showing, f_X10_showing, h1, h0, hb, f_X10_showing_b21, f_X10_showing_b22, p_need0]
          rfl
    · have hr := r_inOk (Nat.zero_le d) hd2 (by omega)
      rw [← pl0, ← pl200] at hr
      have hN := hS.2.2.2.2.2.2.2.2.2.1 p hp
      obtain ⟨⟨-, w4⟩, ⟨-, h4⟩, -, -, -, -, -, -, e9⟩ := id hN
      have hl : ¬ nI d < 0 := nI_pos (by omega)
      have hl2 : ¬ (200 : Int32) < nI d := nI_nlt (a := 200) hd2 (by omega)
      refine .inl ⟨nI (bF (fun i => inC (W p) (H p) i && bhn dp fd (16 * p + i) 0 == d) 16 0 0), ?_, ?_⟩
      · simp -implicitDefEqProofs only [Option.bind_some, pz10, if_true, if_false, eq_self, ↓reduceIte, r_bad0, r_A1, r_A2, r_B1, r_B2, r_B3, r_C1, fC_showing, f_X10_showing, h1, hl, hl2, f_X10_showing_b22, p_need1, f_X1_cellsShowing]
        rw [pu_ck hp5 (by omega), nI_clamp (by omega), e9, pl0, p_showing_b hG h30 hp5 hd2 16 0 4000 0 (by omega) (by omega), bF_and w4 h4 (fun i _ => rfl)]
        rfl
      · simp -implicitDefEqProofs only [Option.bind_some, pz10, if_true, if_false, eq_self, ↓reduceIte, r_bad0, r_A1, r_A2, r_B1, r_B2, r_B3, r_C1, fR_showing, f_X11_showing, h2, f_X11_showing_b19, f_X11_showing_b44, hr]
        have e := r_showing_b (to := R.v12) (v := R.v10) hG h30 hN hp5 hd2 16 0 4000 0 (by omega) (by omega)
        rw [← pl0] at e
        exact e
theorem q_showing {L i : Nat} {C : CS} {R : RS} {cells slots : Nat} (h : PzInv L i C R cells slots) (hi : i + 7 ≤ L) (x1 x2 : Int32) : pS_showing (PzInv L (i + 7)) C R x1 x2 cells slots := by
  rcases a_showing h.2.1 x1 x2 with ⟨r, h1, h2⟩ | ⟨h1, h2⟩ | ⟨h1, h2⟩
  · exact ⟨(0, r, C.v15), (r, 0, R.v10), h1, h2, .inl rfl, rfl, fun _ => rfl, pz_fit h (by omega) (by omega), h.keep hi (by omega) (by omega) h.1⟩
  · exact ⟨(2, 0, upd C.v15 1 (C.v15 1 + 1)), (0, 1, upd R.v10 1 (R.v10 1 + 1)), h1, h2, .inr (.inl rfl), rfl, fun _ => rfl, pz_fit h (by omega) (by omega), h.keep hi (by omega) (by omega) h.1.up⟩
  · exact ⟨(1, 0, upd C.v15 2 (C.v15 2 + 1)), (0, 2, upd R.v10 2 (R.v10 2 + 1)), h1, h2, .inr (.inr rfl), rfl, fun _ => rfl, pz_fit h (by omega) (by omega), h.keep hi (by omega) (by omega) h.1.up⟩
theorem p_filmsOf_b {np hd : Nat} {W H : Nat → Nat} {G : GC} {row : Nat → Int32} {dp fd : Nat → Nat} {dy : Nat} (h : PzG np hd W H G row dp fd dy) (h30 : hd ≤ 30) {d : Nat} (hd2 : d ≤ 200) : ∀ (m i q acc : Nat), i + m = 80 → m < q → f_X2_filmsOf_b4 G.2.2.2.2.2.1 G.2.2.2.2.2.2.1 q (nI d) (nI acc) (nI i) = some (nI (acc + sF (fun c => (hv dp fd c d).toNat) m i)) := by
  intro m
  induction m with
  | zero =>
    intro i q acc hi hq
    obtain ⟨q, rfl⟩ : ∃ r, q = r + 1 := ⟨q - 1, by omega⟩
    rw [f_X2_filmsOf_b4, pl80, if_pos (nI_le (by omega) (by omega)), sF, Nat.add_zero]
  | succ m ih =>
    intro i q acc hi hq
    obtain ⟨q, rfl⟩ : ∃ r, q = r + 1 := ⟨q - 1, by omega⟩
    have h1 := hv_oN h h30 (c := i) (d := d) (by omega)
    rw [f_X2_filmsOf_b4, pl80, if_neg (nI_ge (by omega) (by omega)), p_out h h30 (by omega) hd2, Option.bind_some, f_X2_filmsOf_b23, f_X2_filmsOf_b23, sF, nI_1]
    cases h2 : hv dp fd i d with
    | false =>
      rw [if_pos (h1.mpr h2), ih (i + 1) q acc (by omega) (by omega), Bool.toNat_false, Nat.zero_add]
    | true =>
      rw [if_neg (fun h3 => by rw [h1.mp h3] at h2; cases h2), nI_1, ih (i + 1) q _ (by omega) (by omega), Bool.toNat_true, Nat.add_assoc]
theorem r_filmsOf_b {np hd : Nat} {W H : Nat → Nat} {G : GC} {to row v : Nat → Int32} {dp fd : Nat → Nat} {dy : Nat} (h : PzG np hd W H G row dp fd dy) (h30 : hd ≤ 30) {d : Nat} (hn : np ≤ 5) (ht : to 0 = nI np) (hd2 : d ≤ 200) : ∀ (m i q acc : Nat), i + m = 16 * np → m < q → f_X11_films_b61 to row q 0 v (nI d) (nI acc) (nI i) = some (nI (acc + sF (fun c => (hv dp fd c d).toNat) m i), 0, v) := by
  have e0 : to ((0 : Int32).toNatClampNeg) = nI np := ht
  intro m
  induction m with
  | zero =>
    intro i q acc hi hq
    obtain ⟨q, rfl⟩ : ∃ r, q = r + 1 := ⟨q - 1, by omega⟩
    rw [f_X11_films_b61, e0, pl16, pk_mul, if_pos (nI_le (by omega) (by omega)), sF, Nat.add_zero]
  | succ m ih =>
    intro i q acc hi hq
    obtain ⟨q, rfl⟩ : ∃ r, q = r + 1 := ⟨q - 1, by omega⟩
    rw [f_X11_films_b61, e0, pl16, pk_mul, if_neg (nI_ge (by omega) (by omega)), r_onCell h h30 (by omega) hd2, Option.bind_some, nI_add, nI_1, ih (i + 1) q _ (by omega) (by omega), sF, Nat.add_assoc]
theorem hv_out {np hd : Nat} {W H : Nat → Nat} {G : GC} {row : Nat → Int32} {dp fd : Nat → Nat} {dy : Nat} (h : PzG np hd W H G row dp fd dy) {c d : Nat} (hc : c < 80) (hi : ¬ pzIn np W H c) : hv dp fd c d = false := by
  rw [hv, h.out hc hi]
  rfl
theorem a_films {C : CS} {R : RS} (hc : PzC C R) (x1 x2 : Int32) :
    (∃ r, fC_films C x1 x2 = some (0, r, C.v15) ∧ fR_films R x1 x2 = some (r, 0, R.v10)) ∨
    (fC_films C x1 x2 = some (1, 0, upd C.v15 2 (C.v15 2 + 1)) ∧ fR_films R x1 x2 = some (0, 1, upd R.v10 2 (R.v10 2 + 1))) := by
  obtain ⟨np, no, hd, W, H, hS, ⟨dp, fd, dy, hG⟩, -⟩ := hc
  have h30 := hS.2.2.1.2
  have h5 := hS.1
  have ht := hS.2.2.2.1.2
  rcases pz_rng x1 1 200 (by omega) (by omega) with hb | ⟨d, hd1, hd2, rfl⟩
  · have hr := r_inNo hb
    rw [← pl1, ← pl200] at hb hr
    refine .inr ⟨?_, by simp -implicitDefEqProofs only [Option.bind_some, pz10, if_true, if_false, eq_self, ↓reduceIte, r_bad0, r_A1, r_A2, r_B1, r_B2, r_B3, r_C1, fR_films, f_X11_films, f_X11_films_b26, f_X11_films_b31, hr]⟩
    by_cases h0 : x1 < 1
    · simp -implicitDefEqProofs only [Option.bind_some, pz10, if_true, if_false, eq_self, ↓reduceIte, r_bad0, r_A1, r_A2, r_B1, r_B2, r_B3, r_C1, fC_films, f_X10_films, h0, f_X10_films_b17, f_X10_films_b18, p_need0]
      rfl
    · rcases hb with hb | hb
      · exact absurd hb h0
      · simp -implicitDefEqProofs only [Option.bind_some, pz10, if_true, if_false, eq_self, ↓reduceIte, r_bad0, r_A1, r_A2, r_B1, r_B2, r_B3, r_C1, fC_films, f_X10_films, h0, hb, f_X10_films_b17, f_X10_films_b18, p_need0]
        rfl
  · have hr := r_inOk hd1 hd2 (by omega)
    rw [← pl1, ← pl200] at hr
    have hl : ¬ nI d < 1 := nI_nlt (b := 1) hd1 (by omega)
    have hl2 : ¬ (200 : Int32) < nI d := nI_nlt (a := 200) hd2 (by omega)
    rcases pz_what C.v15 x2 1 (by omega) with ⟨h3, h4⟩ | ⟨a, ha, rfl, h3, h4⟩
    · rw [← pl1] at h3 h4
      refine .inr ⟨?_, by simp -implicitDefEqProofs only [Option.bind_some, pz10, if_true, if_false, eq_self, ↓reduceIte, r_bad0, r_A1, r_A2, r_B1, r_B2, r_B3, r_C1, fR_films, f_X11_films, f_X11_films_b26, f_X11_films_b31, hr, h4]⟩
      simp -implicitDefEqProofs only [Option.bind_some, pz10, if_true, if_false, eq_self, ↓reduceIte, r_bad0, r_A1, r_A2, r_B1, r_B2, r_B3, r_C1, fC_films, f_X10_films, hl, hl2, f_X10_films_b18, p_need1, h3]
      rfl
    · rw [← pl1] at h3 h4
      have ha : a = 0 ∨ a = 1 := by omega
      rcases ha with rfl | rfl
      · refine .inl ⟨R.v29 (2480 + d), ?_, ?_⟩
        · simp -implicitDefEqProofs only [Option.bind_some, pz10, if_true, if_false, eq_self, ↓reduceIte, r_bad0, r_A1, r_A2, r_B1, r_B2, r_B3, r_C1, fC_films, f_X10_films, hl, hl2, f_X10_films_b18, p_need1, h3]
          rw [if_pos (by decide), pu_ck (by omega) (by omega), nI_clamp (by omega), hG.2.2.2.1 d hd2]
        · simp -implicitDefEqProofs only [Option.bind_some, pz10, if_true, if_false, eq_self, ↓reduceIte, r_bad0, r_A1, r_A2, r_B1, r_B2, r_B3, r_C1, fR_films, f_X11_films, f_X11_films_b31, hr, h4]
          rw [if_pos (by decide), pl2480, nI_add, pu_ck (by omega) (by omega), nI_clamp (by omega)]
      · refine .inl ⟨nI (sF (fun c => (hv dp fd c d).toNat) (16 * np) 0), ?_, ?_⟩
        · simp -implicitDefEqProofs only [Option.bind_some, pz10, if_true, if_false, eq_self, ↓reduceIte, r_bad0, r_A1, r_A2, r_B1, r_B2, r_B3, r_C1, fC_films, f_X10_films, hl, hl2, f_X10_films_b18, p_need1, h3, f_X2_filmsOf]
          have e := p_filmsOf_b hG h30 hd2 80 0 4000 0 (by omega) (by omega)
          rw [Nat.zero_add, show 80 = 16 * np + (80 - 16 * np) by omega, sF_split, sF_zero _ (80 - 16 * np) _ (fun j h1 h2 => by
            show (hv dp fd j d).toNat = 0
            rw [hv_out hG (by omega) (fun h6 => by have := h6.1; omega)]
            rfl), Nat.add_zero] at e
          rw [if_neg (by decide), pl0, e]
          rfl
        · simp -implicitDefEqProofs only [Option.bind_some, pz10, if_true, if_false, eq_self, ↓reduceIte, r_bad0, r_A1, r_A2, r_B1, r_B2, r_B3, r_C1, fR_films, f_X11_films, f_X11_films_b31, hr, h4]
          have e := r_filmsOf_b (v := R.v10) hG h30 h5 ht hd2 (16 * np) 0 4000 0 (by omega) (by omega)
          rw [Nat.zero_add] at e
          rw [← pl0] at e
          rw [if_neg (by decide)]
          exact e
theorem q_films {L i : Nat} {C : CS} {R : RS} {cells slots : Nat} (h : PzInv L i C R cells slots) (hi : i + 7 ≤ L) (x1 x2 : Int32) : pS_films (PzInv L (i + 7)) C R x1 x2 cells slots := by
  rcases a_films h.2.1 x1 x2 with ⟨r, h1, h2⟩ | ⟨h1, h2⟩
  · exact ⟨(0, r, C.v15), (r, 0, R.v10), h1, h2, .inl rfl, rfl, fun _ => rfl, pz_fit h (by omega) (by omega), h.keep hi (by omega) (by omega) h.1⟩
  · exact ⟨(1, 0, upd C.v15 2 (C.v15 2 + 1)), (0, 1, upd R.v10 2 (R.v10 2 + 1)), h1, h2, .inr rfl, rfl, fun _ => rfl, pz_fit h (by omega) (by omega), h.keep hi (by omega) (by omega) h.1.up⟩
