/-! alike, thick, share -/
theorem p_same_b {np hd : Nat} {W H : Nat → Nat} {G : GC} {row : Nat → Int32} {dp fd : Nat → Nat} {dy : Nat} (h : PzG np hd W H G row dp fd dy) (h30 : hd ≤ 30) {p p2 ce : Nat} (hp : p < 5) (hp2 : p2 < 5) : ∀ (m i q acc : Nat), i + m = 16 → m < q → f_X1_sameCells_b6 G.2.2.2.2.2.1 G.2.2.2.2.2.2.1 q (nI p) (nI p2) (nI ce) (nI acc) (nI i) = some (nI (bF (fun i => bhn dp fd (16 * p + i) 0 == bhn dp fd (16 * p2 + i) 0) m i acc &&& ce)) := by
  intro m
  induction m with
  | zero =>
    intro i q acc hi hq
    obtain ⟨q, rfl⟩ : ∃ r, q = r + 1 := ⟨q - 1, by omega⟩
    rw [f_X1_sameCells_b6, pl16, if_pos (nI_le (by omega) (by omega)), bF, pz_and]
  | succ m ih =>
    intro i q acc hi hq
    obtain ⟨q, rfl⟩ : ∃ r, q = r + 1 := ⟨q - 1, by omega⟩
    have h1 := bhn_le h (c := 16 * p + i) (by omega) 0
    have h3 := bhn_le h (c := 16 * p2 + i) (by omega) 0
    rw [f_X1_sameCells_b6, pl16, if_neg (nI_ge (by omega) (by omega)), pk_mul, nI_add, pk_mul, nI_add, p_shownG h h30 (by omega), Option.bind_some, p_shownG h h30 (by omega), Option.bind_some, f_X1_sameCells_b47, f_X1_sameCells_b47, bF, nI_1]
    by_cases h2 : bhn dp fd (16 * p + i) 0 = bhn dp fd (16 * p2 + i) 0
    · rw [if_pos (by rw [h2]), if_pos (by rw [beq_iff_eq]; exact h2), pl1, pl31, pn_shl (by omega), pz_or]
      exact ih (i + 1) q _ (by omega) (by omega)
    · rw [if_neg (by rw [nI_eq (by omega) (by omega)]; exact h2), if_neg (by rw [beq_iff_eq]; exact h2)]
      exact ih (i + 1) q _ (by omega) (by omega)
theorem r_alike_b {np hd : Nat} {W H : Nat → Nat} {G : GC} {s : CX6} {to row v : Nat → Int32} {pa : Nat → Nat → Int32} {dp fd : Nat → Nat} {dy : Nat} (h : PzG np hd W H G row dp fd dy) (h30 : hd ≤ 30) {p p2 : Nat} (hN : PzN W H s pa p) (hp : p < 5) (hN2 : PzN W H s pa p2) (hp2 : p2 < 5) : ∀ (m i q acc : Nat), i + m = 16 → m < q → f_X11_alike_b42 to row pa q 0 v (nI p) (nI p2) (nI acc) (nI i) = some (nI (bF (fun i => inC (W p) (H p) i && (inC (W p2) (H p2) i && bhn dp fd (16 * p + i) 0 == bhn dp fd (16 * p2 + i) 0)) m i acc), 0, v) := by
  intro m
  induction m with
  | zero =>
    intro i q acc hi hq
    obtain ⟨q, rfl⟩ : ∃ r, q = r + 1 := ⟨q - 1, by omega⟩
    rw [f_X11_alike_b42, pl16, if_pos (nI_le (by omega) (by omega)), bF]
  | succ m ih =>
    intro i q acc hi hq
    obtain ⟨q, rfl⟩ : ∃ r, q = r + 1 := ⟨q - 1, by omega⟩
    have h1 := bhn_le h (c := 16 * p + i) (by omega) 0
    have h3 := bhn_le h (c := 16 * p2 + i) (by omega) 0
    have h0 : nI acc ||| (0 : Int32) = nI acc := by rw [pl0, pz_or, Nat.or_zero]
    rw [f_X11_alike_b42, pl16, if_neg (nI_ge (by omega) (by omega)), r_isOf hN hp (by omega), Option.bind_some, r_isOf hN2 hp2 (by omega), Option.bind_some, f_X11_alike_b110, f_X11_alike_b111, f_X11_alike_b111, h0, bF, nI_1]
    cases h2 : inC (W p) (H p) i with
    | false =>
      rw [if_pos (by decide), Bool.false_and, if_neg (by decide)]
      exact ih (i + 1) q _ (by omega) (by omega)
    | true =>
      rw [if_neg (by decide), Bool.true_and]
      cases h4 : inC (W p2) (H p2) i with
      | false =>
        rw [if_pos (by decide), Bool.false_and, if_neg (by decide)]
        exact ih (i + 1) q _ (by omega) (by omega)
      | true =>
        rw [if_neg (by decide), Bool.true_and, pk_mul, nI_add, pk_mul, nI_add, show (0 : Int32) = nI 0 from rfl, r_filmG h h30 (by omega) (by omega), Option.bind_some, r_filmG h h30 (by omega) (by omega), Option.bind_some]
        by_cases h5 : bhn dp fd (16 * p + i) 0 = bhn dp fd (16 * p2 + i) 0
        · rw [if_pos (by rw [h5]), if_pos (by rw [beq_iff_eq]; exact h5), pl1, pl31, pn_shl (by omega), pz_or]
          exact ih (i + 1) q _ (by omega) (by omega)
        · rw [if_neg (by rw [nI_eq (by omega) (by omega)]; exact h5), if_neg (by rw [beq_iff_eq]; exact h5)]
          exact ih (i + 1) q _ (by omega) (by omega)
theorem a_alike {C : CS} {R : RS} (hc : PzC C R) (x1 x2 : Int32) :
    (∃ r, fC_alike C x1 x2 = some (0, r, C.v15) ∧ fR_alike R x1 x2 = some (r, 0, R.v10)) ∨
    (fC_alike C x1 x2 = some (2, 0, upd C.v15 1 (C.v15 1 + 1)) ∧ fR_alike R x1 x2 = some (0, 1, upd R.v10 1 (R.v10 1 + 1))) := by
  obtain ⟨np, no, hd, W, H, hS, ⟨dp, fd, dy, hG⟩, -⟩ := hc
  have h30 := hS.2.2.1.2
  rcases pz_pane hS C.v15 x1 with ⟨h1, h2⟩ | ⟨p, hp, hp5, rfl, h1, h2⟩
  · exact .inr ⟨by simp -implicitDefEqProofs only [Option.bind_some, pz10, if_true, if_false, eq_self, ↓reduceIte, r_bad0, r_A1, r_A2, r_B1, r_B2, r_B3, r_C1, fC_alike, f_X10_alike, h1]; rfl, by simp -implicitDefEqProofs only [Option.bind_some, pz10, if_true, if_false, eq_self, ↓reduceIte, r_bad0, r_A1, r_A2, r_B1, r_B2, r_B3, r_C1, fR_alike, f_X11_alike, h2, f_X11_alike_b22, f_X11_alike_b27]⟩
  · rcases pz_pane hS C.v15 x2 with ⟨h3, h4⟩ | ⟨p2, hp2, hp25, rfl, h3, h4⟩
    · exact .inr ⟨by simp -implicitDefEqProofs only [Option.bind_some, pz10, if_true, if_false, eq_self, ↓reduceIte, r_bad0, r_A1, r_A2, r_B1, r_B2, r_B3, r_C1, fC_alike, f_X10_alike, h1, h3]; rfl, by simp -implicitDefEqProofs only [Option.bind_some, pz10, if_true, if_false, eq_self, ↓reduceIte, r_bad0, r_A1, r_A2, r_B1, r_B2, r_B3, r_C1, fR_alike, f_X11_alike, h2, h4, f_X11_alike_b22, f_X11_alike_b27]⟩
    · have hN := hS.2.2.2.2.2.2.2.2.2.1 p hp
      have hN2 := hS.2.2.2.2.2.2.2.2.2.1 p2 hp2
      have e := r_alike_b (to := R.v12) (v := R.v10) hG h30 hN hp5 hN2 hp25 16 0 4000 0 (by omega) (by omega)
      have e2 := p_same_b (ce := pzcb (W p2) (H p2) &&& pzcb (W p) (H p)) hG h30 hp5 hp25 16 0 4000 0 (by omega) (by omega)
      rw [← Nat.and_assoc, bF_and hN2.1.2 hN2.2.1.2 (fun i _ => rfl), bF_and hN.1.2 hN.2.1.2 (fun i _ => rfl), ← pl0] at e2
      rw [← pl0] at e
      refine .inl ⟨_, ?_, by simp -implicitDefEqProofs only [Option.bind_some, pz10, if_true, if_false, eq_self, ↓reduceIte, r_bad0, r_A1, r_A2, r_B1, r_B2, r_B3, r_C1, fR_alike, f_X11_alike, h2, h4, f_X11_alike_b27]; exact e⟩
      simp -implicitDefEqProofs only [Option.bind_some, pz10, if_true, if_false, eq_self, ↓reduceIte, r_bad0, r_A1, r_A2, r_B1, r_B2, r_B3, r_C1, fC_alike, f_X10_alike, h1, h3, f_X1_sameCells]
      rw [pu_ck hp5 (by omega), pu_ck hp25 (by omega), nI_clamp (by omega), nI_clamp (by omega), hN.2.2.2.2.2.2.2.2, hN2.2.2.2.2.2.2.2.2, pz_and, Nat.and_comm (pzcb (W p) (H p)), e2]
      rfl
theorem q_alike {L i : Nat} {C : CS} {R : RS} {cells slots : Nat} (h : PzInv L i C R cells slots) (hi : i + 7 ≤ L) (x1 x2 : Int32) : pS_alike (PzInv L (i + 7)) C R x1 x2 cells slots := by
  rcases a_alike h.2.1 x1 x2 with ⟨r, h1, h2⟩ | ⟨h1, h2⟩
  · exact ⟨(0, r, C.v15), (r, 0, R.v10), h1, h2, .inl rfl, rfl, fun _ => rfl, pz_fit h (by omega) (by omega), h.keep hi (by omega) (by omega) h.1⟩
  · exact ⟨(2, 0, upd C.v15 1 (C.v15 1 + 1)), (0, 1, upd R.v10 1 (R.v10 1 + 1)), h1, h2, .inr rfl, rfl, fun _ => rfl, pz_fit h (by omega) (by omega), h.keep hi (by omega) (by omega) h.1.up⟩
def tkF (dp : Nat → Nat) : Nat → Nat → Int32 → Nat → Int32
  | 0, _, b, _ => b
  | m + 1, i, b, mo => if mo < dp i then tkF dp m (i + 1) (nI i) (dp i) else tkF dp m (i + 1) b mo
theorem tkF_tail (dp : Nat → Nat) : ∀ z i b mo, (∀ j, i ≤ j → j < i + z → dp j = 0) → tkF dp z i b mo = b := by
  intro z
  induction z with
  | zero =>
    intro i b mo h
    rfl
  | succ z ih =>
    intro i b mo h
    rw [tkF, h i (by omega) (by omega), if_neg (by omega)]
    exact ih (i + 1) b mo (fun j h1 h2 => h j (by omega) (by omega))
theorem tkF_split (dp : Nat → Nat) (z : Nat) : ∀ m i b mo, (∀ j, i + m ≤ j → j < i + m + z → dp j = 0) → tkF dp (m + z) i b mo = tkF dp m i b mo := by
  intro m
  induction m with
  | zero =>
    intro i b mo h
    rw [Nat.zero_add, tkF_tail dp z i b mo (fun j h1 h2 => h j (by omega) (by omega)), tkF]
  | succ m ih =>
    intro i b mo h
    rw [show m + 1 + z = (m + z) + 1 by omega, tkF, tkF, ih (i + 1) _ _ (fun j h1 h2 => h j (by omega) (by omega)), ih (i + 1) _ _ (fun j h1 h2 => h j (by omega) (by omega))]
theorem p_thick_b {de : Nat → Int32} {dp : Nat → Nat} (hd : ∀ c, c < 80 → de c = nI (dp c) ∧ dp c ≤ 30) : ∀ (m i q mo : Nat) (b : Int32), i + m = 80 → m < q → mo ≤ 30 → f_X2_thickest_b6 de q b (nI mo) (nI i) = some (tkF dp m i b mo) := by
  intro m
  induction m with
  | zero =>
    intro i q mo b hi hq hm
    obtain ⟨q, rfl⟩ : ∃ r, q = r + 1 := ⟨q - 1, by omega⟩
    rw [f_X2_thickest_b6, pl80, if_pos (nI_le (by omega) (by omega)), tkF]
  | succ m ih =>
    intro i q mo b hi hq hm
    obtain ⟨q, rfl⟩ : ∃ r, q = r + 1 := ⟨q - 1, by omega⟩
    obtain ⟨h1, h2⟩ := hd i (by omega)
    rw [f_X2_thickest_b6, pl80, if_neg (nI_ge (by omega) (by omega)), pu_ck (by omega) (by omega), pu_ck (by omega) (by omega), nI_clamp (by omega), h1, f_X2_thickest_b31, f_X2_thickest_b31, nI_1, tkF]
    by_cases h0 : mo < dp i
    · rw [if_neg (nI_ge h0 (by omega)), if_pos h0]
      exact ih (i + 1) q _ _ (by omega) (by omega) h2
    · rw [if_pos (nI_le (by omega) (by omega)), if_neg h0]
      exact ih (i + 1) q _ _ (by omega) (by omega) hm
theorem r_thick_b {to row : Nat → Int32} {dp : Nat → Nat} {np : Nat} (hn : np ≤ 5) (ht : to 0 = nI np) (hd : ∀ c, c < 80 → row (2400 + c) = nI (dp c) ∧ dp c ≤ 30) : ∀ (m i q mo : Nat) (b : Int32), i + m = 16 * np → m < q → mo ≤ 30 → f_X11_thick_b11 to row q 0 b (nI mo) (nI i) = some (tkF dp m i b mo, 0) := by
  have e0 : to ((0 : Int32).toNatClampNeg) = nI np := ht
  intro m
  induction m with
  | zero =>
    intro i q mo b hi hq hm
    obtain ⟨q, rfl⟩ : ∃ r, q = r + 1 := ⟨q - 1, by omega⟩
    rw [f_X11_thick_b11, e0, pl16, pk_mul, if_pos (nI_le (by omega) (by omega)), tkF]
  | succ m ih =>
    intro i q mo b hi hq hm
    obtain ⟨q, rfl⟩ : ∃ r, q = r + 1 := ⟨q - 1, by omega⟩
    obtain ⟨h1, h2⟩ := hd i (by omega)
    rw [f_X11_thick_b11, e0, pl16, pk_mul, if_neg (nI_ge (by omega) (by omega)), pl2400, nI_add, pu_ck (by omega) (by omega), pu_ck (by omega) (by omega), nI_clamp (by omega), h1, f_X11_thick_b54, f_X11_thick_b54, nI_1, tkF]
    by_cases h0 : mo < dp i
    · rw [if_pos (nI_lt h0 (by omega)), if_pos h0]
      exact ih (i + 1) q _ _ (by omega) (by omega) h2
    · rw [if_neg (nI_nlt (by omega) (by omega)), if_neg h0]
      exact ih (i + 1) q _ _ (by omega) (by omega) hm
theorem q_thick {L i : Nat} {C : CS} {R : RS} {cells slots : Nat} (h : PzInv L i C R cells slots) (hi : i + 7 ≤ L) : pS_thick (PzInv L (i + 7)) C R cells slots := by
  have hc := h.2.1
  obtain ⟨np, no, hd, W, H, hS, ⟨dp, fd, dy, hG⟩, -⟩ := hc
  have h5 : np ≤ 5 := hS.1
  have h30 : hd ≤ 30 := hS.2.2.1.2
  have e1 := p_thick_b (de := C.n.2.2.2.2.2.2.1) (dp := dp) (fun c hc => ⟨hG.dep hc, Nat.le_trans (hG.le hc) h30⟩) 80 0 4000 0 (-1) (by omega) (by omega) (by omega)
  have e2 := r_thick_b h5 hS.2.2.2.1.2 (fun c hc => ⟨hG.many hc, Nat.le_trans (hG.le hc) h30⟩) (16 * np) 0 4000 0 (-1) (by omega) (by omega) (by omega)
  rw [show 80 = 16 * np + (80 - 16 * np) by omega, tkF_split dp (80 - 16 * np) (16 * np) 0 _ _ (fun j h1 h2 => hG.out (by omega) (fun h6 => by have := h6.1; omega)), ← pl0] at e1
  rw [← pl0] at e2
  refine ⟨_, _, ?_, e2, rfl, pz_fit h (by omega) (by omega), h.keep hi (by omega) (by omega) h.1⟩
  show f_X10_thick _ = _
  rw [f_X10_thick, f_X2_thickest, e1]
  rfl
theorem sh_loop {de row : Nat → Int32} {to : Nat → Int32} {pa : Nat → Nat → Int32} {v : Nat → Int32} {dp : Nat → Nat} {p x y : Nat} {n al : Int32} (hp : p < 5) (hx : x < 4) (hy : y < 4) (hal : al ≠ 0) (hd : ∀ c, c < 80 → de c = nI (dp c) ∧ row (2400 + c) = nI (dp c) ∧ dp c ≤ 30) : ∀ (m i q t : Nat) (left : Int32), i + m = 16 → m < q → t < i → ∃ r, f_X1_shareOf_b37 de q (nI (16 * p + 4 * y + x)) n (nI (16 * p)) al (nI (16 * p + t)) left (nI (16 * p + i)) = some r ∧ f_X11_share_b70 to row pa q 0 v (nI p) (nI x) (nI y) n al left (nI t) (nI i) = some (r, 0, v) := by
  have hcd : ∀ {R : Type} (k : Option R), cd al k = k := fun k => if_neg hal
  intro m
  induction m with
  | zero =>
    intro i q t left hi hq ht
    obtain ⟨q, rfl⟩ : ∃ r, q = r + 1 := ⟨q - 1, by omega⟩
    obtain ⟨d1, d2, -⟩ := hd (16 * p + 4 * y + x) (by omega)
    have e4 : (4 : Int32) * nI y + nI x = nI (4 * y + x) := by rw [pl4, pk_mul, nI_add]
    rw [f_X1_shareOf_b37, f_X11_share_b70, pl16, nI_add, if_pos (nI_le (by omega) (by omega)), if_pos (nI_le (by omega) (by omega)), pu_ck (by omega) (by omega), nI_clamp (by omega), d1, f_X11_cellOf, Option.bind_some, pl16, pk_mul, pl4, pk_mul, nI_add, nI_add, nI_add, pl2400, nI_add, pu_ck (by omega) (by omega), nI_clamp (by omega), d2, hcd, hcd, f_X1_shareOf_b114, f_X1_shareOf_b114, f_X11_share_b197, f_X11_share_b197]
    by_cases h0 : t = 4 * y + x
    · rw [if_pos (by rw [h0, Nat.add_assoc]), if_pos (by rw [h0])]
      exact ⟨_, rfl, rfl⟩
    · rw [if_neg (by rw [nI_eq (by omega) (by omega)]; omega), if_neg (by rw [nI_eq (by omega) (by omega)]; omega)]
      exact ⟨_, rfl, rfl⟩
  | succ m ih =>
    intro i q t left hi hq ht
    obtain ⟨q, rfl⟩ : ∃ r, q = r + 1 := ⟨q - 1, by omega⟩
    obtain ⟨d1, d2, d3⟩ := hd (16 * p + i) (by omega)
    obtain ⟨f1, f2, f3⟩ := hd (16 * p + t) (by omega)
    rw [f_X1_shareOf_b37, f_X11_share_b70, pl16, nI_add, if_neg (nI_ge (by omega) (by omega)), if_neg (nI_ge (by omega) (by omega)), pu_ck (by omega) (by omega), pu_ck (by omega) (by omega), pu_ck (by omega) (by omega), nI_clamp (by omega), nI_clamp (by omega), d1, f1, hcd, f_X1_shareOf_b85, f_X1_shareOf_b85, nI_1, pk_mul, pl2400, nI_add, nI_add, nI_add, pu_ck (by omega) (by omega), pu_ck (by omega) (by omega), pu_ck (by omega) (by omega), nI_clamp (by omega), nI_clamp (by omega), Nat.add_assoc 2400, Nat.add_assoc 2400, d2, f2, hcd, if_neg (neg1_ne (by omega)), f_X11_share_b145, f_X11_share_b152, f_X11_share_b152, nI_1]
    by_cases h0 : dp (16 * p + i) ≤ dp (16 * p + t)
    · rw [if_pos (nI_le h0 (by omega)), if_pos (nI_le h0 (by omega))]
      exact ih (i + 1) q t _ (by omega) (by omega) (by omega)
    · rw [if_neg (nI_ge (by omega) (by omega)), if_neg (nI_ge (by omega) (by omega))]
      exact ih (i + 1) q i _ (by omega) (by omega) (by omega)
theorem sh_start {de row : Nat → Int32} {to : Nat → Int32} {pa : Nat → Nat → Int32} {v : Nat → Int32} {dp : Nat → Nat} {p x y : Nat} {n al : Int32} (hp : p < 5) (hx : x < 4) (hy : y < 4) (hal : al ≠ 0) (hd : ∀ c, c < 80 → de c = nI (dp c) ∧ row (2400 + c) = nI (dp c) ∧ dp c ≤ 30) : ∃ r, f_X1_shareOf_b37 de 4000 (nI (16 * p + 4 * y + x)) n (nI (16 * p)) al (nI (16 * p)) n (nI (16 * p)) = some r ∧ f_X11_share_b70 to row pa 4000 0 v (nI p) (nI x) (nI y) n al n (-1) (nI 0) = some (r, 0, v) := by
  have hcd : ∀ {R : Type} (k : Option R), cd al k = k := fun k => if_neg hal
  obtain ⟨d1, d2, d3⟩ := hd (16 * p) (by omega)
  have e := sh_loop (to := to) (pa := pa) (v := v) (n := n) hp hx hy hal hd 15 1 3999 0 (n - n * nI (dp (16 * p)) / al) (by omega) (by omega) (by omega)
  rw [show (4000 : Nat) = 3999 + 1 from rfl, f_X1_shareOf_b37, f_X11_share_b70, pl16, nI_add, if_neg (nI_ge (by omega) (by omega)), if_neg (nI_ge (by omega) (by omega)), pu_ck (by omega) (by omega), pu_ck (by omega) (by omega), nI_clamp (by omega), d1, hcd, f_X1_shareOf_b85, if_pos (nI_le (Nat.le_refl _) (by omega)), nI_1, pk_mul, pl2400, nI_add, nI_add, show 2400 + 16 * p + 0 = 2400 + 16 * p from rfl, pu_ck (by omega) (by omega), nI_clamp (by omega), d2, hcd, if_pos rfl, f_X11_share_b145, f_X11_share_b152, nI_1]
  rw [show (0 + 1 : Nat) = 1 from rfl, pu_ck (by omega) (by omega)]
  rw [show 16 * p + 0 = 16 * p from rfl] at e
  exact e
theorem a_share {C : CS} {R : RS} (hc : PzC C R) (x1 x2 x3 x4 : Int32) :
    (∃ r, fC_share C x1 x2 x3 x4 = some (0, r, C.v15) ∧ fR_share R x1 x2 x3 x4 = some (r, 0, R.v10)) ∨
    (fC_share C x1 x2 x3 x4 = some (2, 0, upd C.v15 1 (C.v15 1 + 1)) ∧ fR_share R x1 x2 x3 x4 = some (0, 2, upd R.v10 1 (R.v10 1 + 1))) ∨
    (fC_share C x1 x2 x3 x4 = some (3, 0, upd C.v15 0 (C.v15 0 + 1)) ∧ fR_share R x1 x2 x3 x4 = some (0, 1, upd R.v10 0 (R.v10 0 + 1))) ∨
    (fC_share C x1 x2 x3 x4 = some (1, 0, upd C.v15 2 (C.v15 2 + 1)) ∧ fR_share R x1 x2 x3 x4 = some (0, 3, upd R.v10 2 (R.v10 2 + 1))) := by
  obtain ⟨np, no, hd, W, H, hS, ⟨dp, fd, dy, hG⟩, -⟩ := hc
  have h5 := hS.1
  have h30 := hS.2.2.1.2
  rcases pz_cell hS C.v15 R.v10 x1 x2 x3 with ⟨h1, h2⟩ | ⟨h1, h2⟩ | ⟨p, x, y, hp, hx, hy, w4, h4, rfl, rfl, rfl, h1, h2⟩
  · exact .inr (.inl ⟨by simp -implicitDefEqProofs only [Option.bind_some, pz10, if_true, if_false, eq_self, ↓reduceIte, r_bad0, r_A1, r_A2, r_B1, r_B2, r_B3, r_C1, fC_share, f_X10_share, h1]; rfl, by simp -implicitDefEqProofs only [Option.bind_some, pz10, if_true, if_false, eq_self, ↓reduceIte, r_bad0, r_A1, r_A2, r_B1, r_B2, r_B3, r_C1, fR_share, f_X11_share, h2]⟩)
  · exact .inr (.inr (.inl ⟨by simp -implicitDefEqProofs only [Option.bind_some, pz10, if_true, if_false, eq_self, ↓reduceIte, r_bad0, r_A1, r_A2, r_B1, r_B2, r_B3, r_C1, fC_share, f_X10_share, h1]; rfl, by simp -implicitDefEqProofs only [Option.bind_some, pz10, if_true, if_false, eq_self, ↓reduceIte, r_bad0, r_A1, r_A2, r_B1, r_B2, r_B3, r_C1, fR_share, f_X11_share, h2]⟩))
  · rcases pz_ix2 x4 (n := 9999) (by omega) with hb | ⟨n, hn, rfl⟩
    · have hr := r_inNo hb
      rw [← pl9999] at hb hr
      refine .inr (.inr (.inr ⟨?_, by simp -implicitDefEqProofs only [Option.bind_some, pz10, if_true, if_false, eq_self, ↓reduceIte, r_bad0, r_A1, r_A2, r_B1, r_B2, r_B3, r_C1, fR_share, f_X11_share, h2, hr, f_X11_share_b33]⟩))
      by_cases h0 : x4 < 0
      · simp -implicitDefEqProofs only [Option.bind_some, pz10, if_true, if_false, eq_self, ↓reduceIte, r_bad0, r_A1, r_A2, r_B1, r_B2, r_B3, r_C1, fC_share, f_X10_share, h1, h0, f_X10_share_b27, f_X10_share_b28, p_need0]
        rfl
      · rcases hb with hb | hb
        · exact absurd hb h0
        · simp -implicitDefEqProofs only [Option.bind_some, pz10, if_true, if_false, eq_self, ↓reduceIte, r_bad0, r_A1, r_A2, r_B1, r_B2, r_B3, r_C1, fC_share, f_X10_share, h1, h0, hb, f_X10_share_b27, f_X10_share_b28, p_need0]
          rfl
    · have hr := r_inOk (Nat.zero_le n) hn (by omega)
      rw [← pl0, ← pl9999] at hr
      have hl : ¬ nI n < 0 := nI_pos (by omega)
      have hl2 : ¬ (9999 : Int32) < nI n := nI_nlt (a := 9999) hn (by omega)
      have hdv : nI (16 * p + 4 * y + x) / 16 = nI p := by
        rw [pl16, pk_div (by omega) (by omega) (by omega)]
        congr 1
        omega
      have hdv2 : nI p * 16 = nI (16 * p) := by rw [pl16, pk_mul, Nat.mul_comm]
      have hA : fC_share C (nI p) (nI x) (nI y) (nI n) = (f_X1_shareOf C.n.2.2.2.2.2.2.1 (nI (16 * p + 4 * y + x)) (nI n)).bind fun q46 => some (0, q46, C.v15) := by
        simp -implicitDefEqProofs only [Option.bind_some, pz10, if_true, if_false, eq_self, ↓reduceIte, r_bad0, r_A1, r_A2, r_B1, r_B2, r_B3, r_C1, fC_share, f_X10_share, h1, hl, hl2, f_X10_share_b28, p_need1]
      have hB : fR_share R (nI p) (nI x) (nI y) (nI n) = f_X11_share_b33 R.v12 R.v29 R.g14 0 R.v10 (nI p) (nI x) (nI y) (nI n) 0 := by
        simp -implicitDefEqProofs only [Option.bind_some, pz10, if_true, if_false, eq_self, ↓reduceIte, r_bad0, r_A1, r_A2, r_B1, r_B2, r_B3, r_C1, fR_share, f_X11_share, h2, hr]
      rw [hA, hB, f_X1_shareOf, hdv, hdv2, p_filmsOn (by omega) (fun c hc => hG.dep hc), Option.bind_some, f_X11_share_b33, r_bad0, Option.bind_some, if_pos rfl, r_onPane (by omega) (fun c hc => hG.many hc), Option.bind_some]
      have hle := aP_le hG h30 (p := p) (by omega)
      by_cases h0 : nI (aP dp p) = 0
      · rw [if_pos h0, if_pos h0]
        exact .inl ⟨0, rfl, rfl⟩
      · rw [if_neg h0, if_neg h0]
        obtain ⟨r, e1, e2⟩ := sh_start (de := C.n.2.2.2.2.2.2.1) (row := R.v29) (dp := dp) (to := R.v12) (pa := R.g14) (v := R.v10) (p := p) (x := x) (y := y) (n := nI n) (al := nI (aP dp p)) (by omega) (by omega) (by omega) h0 (fun c hc => ⟨hG.dep hc, hG.many hc, Nat.le_trans (hG.le hc) h30⟩)
        rw [← pl0] at e2
        refine .inl ⟨r, ?_, e2⟩
        rw [e1]
        rfl
theorem q_share {L i : Nat} {C : CS} {R : RS} {cells slots : Nat} (h : PzInv L i C R cells slots) (hi : i + 7 ≤ L) (x1 x2 x3 x4 : Int32) : pS_share (PzInv L (i + 7)) C R x1 x2 x3 x4 cells slots := by
  rcases a_share h.2.1 x1 x2 x3 x4 with ⟨r, h1, h2⟩ | ⟨h1, h2⟩ | ⟨h1, h2⟩ | ⟨h1, h2⟩
  · exact ⟨(0, r, C.v15), (r, 0, R.v10), h1, h2, .inl rfl, rfl, fun _ => rfl, pz_fit h (by omega) (by omega), h.keep hi (by omega) (by omega) h.1⟩
  · exact ⟨(2, 0, upd C.v15 1 (C.v15 1 + 1)), (0, 2, upd R.v10 1 (R.v10 1 + 1)), h1, h2, .inr (.inr (.inl rfl)), rfl, fun _ => rfl, pz_fit h (by omega) (by omega), h.keep hi (by omega) (by omega) h.1.up⟩
  · exact ⟨(3, 0, upd C.v15 0 (C.v15 0 + 1)), (0, 1, upd R.v10 0 (R.v10 0 + 1)), h1, h2, .inr (.inl rfl), rfl, fun _ => rfl, pz_fit h (by omega) (by omega), h.keep hi (by omega) (by omega) h.1.up⟩
  · exact ⟨(1, 0, upd C.v15 2 (C.v15 2 + 1)), (0, 3, upd R.v10 2 (R.v10 2 + 1)), h1, h2, .inr (.inr (.inr rfl)), rfl, fun _ => rfl, pz_fit h (by omega) (by omega), h.keep hi (by omega) (by omega) h.1.up⟩
