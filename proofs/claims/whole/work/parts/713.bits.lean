/-! which days a cell has; bits of cells -/
def oN (f : Nat → Nat) (d : Nat) : Nat → Nat → Int32
  | 0, _ => -1
  | m + 1, i => if f i = d then nI i else oN f d m (i + 1)
def anyN (f : Nat → Nat) (d : Nat) : Nat → Nat → Bool
  | 0, _ => false
  | m + 1, i => f i == d || anyN f d m (i + 1)
theorem anyN_iff (f : Nat → Nat) (d : Nat) : ∀ m i, anyN f d m i = true ↔ ∃ j, i ≤ j ∧ j < i + m ∧ f j = d := by
  intro m
  induction m with
  | zero =>
    intro i
    simp only [anyN, Bool.false_eq_true, false_iff]
    rintro ⟨j, h1, h2, -⟩
    omega
  | succ m ih =>
    intro i
    rw [anyN, Bool.or_eq_true, ih, beq_iff_eq]
    constructor
    · rintro (h | ⟨j, h1, h2, h3⟩)
      · exact ⟨i, by omega, by omega, h⟩
      · exact ⟨j, by omega, by omega, h3⟩
    · rintro ⟨j, h1, h2, h3⟩
      by_cases h : j = i
      · subst h
        exact .inl h3
      · exact .inr ⟨j, by omega, by omega, h3⟩
theorem oN_any (f : Nat → Nat) (d : Nat) : ∀ m i, i + m < 2 ^ 31 → (oN f d m i = -1 ↔ anyN f d m i = false) := by
  intro m
  induction m with
  | zero =>
    intro i hi
    simp [oN, anyN]
  | succ m ih =>
    intro i hi
    rw [oN, anyN]
    by_cases h : f i = d
    · rw [if_pos h, beq_iff_eq.mpr h]
      constructor
      · intro h1
        exact absurd (h1 ▸ nI_pos (n := i) (by omega)) (by decide)
      · intro h1
        cases h1
    · rw [if_neg h, ih (i + 1) (by omega), beq_eq_false_iff_ne.mpr h, Bool.false_or]
theorem oN_some (f : Nat → Nat) (d : Nat) : ∀ m i, anyN f d m i = true → ∃ j, i ≤ j ∧ j < i + m ∧ f j = d ∧ (∀ k, i ≤ k → k < j → f k ≠ d) ∧ oN f d m i = nI j := by
  intro m
  induction m with
  | zero =>
    intro i h
    cases h
  | succ m ih =>
    intro i h
    rw [oN]
    by_cases h0 : f i = d
    · exact ⟨i, by omega, by omega, h0, fun k h1 h2 => absurd h1 (by omega), if_pos h0⟩
    · rw [anyN, beq_eq_false_iff_ne.mpr h0, Bool.false_or] at h
      obtain ⟨j, h1, h2, h3, h4, h5⟩ := ih (i + 1) h
      refine ⟨j, by omega, by omega, h3, fun k h6 h7 => ?_, by rw [if_neg h0]; exact h5⟩
      by_cases e : k = i
      · subst e
        exact h0
      · exact h4 k (by omega) h7
/-- cell c has a film of day d -/
def hv (dp fd : Nat → Nat) (c d : Nat) : Bool := anyN (bhn dp fd c) d (dp c) 0
theorem hv_iff (dp fd : Nat → Nat) (c d : Nat) : hv dp fd c d = true ↔ ∃ j, j < dp c ∧ fd (30 * c + j) = d := by
  rw [hv, anyN_iff]
  constructor
  · rintro ⟨j, h1, h2, h3⟩
    rw [bhn, if_pos (by omega)] at h3
    exact ⟨dp c - 1 - j, by omega, by rw [← h3]; congr 1; omega⟩
  · rintro ⟨j, h1, h3⟩
    refine ⟨dp c - 1 - j, by omega, by omega, ?_⟩
    rw [bhn, if_pos (by omega), ← h3]
    congr 1
    omega
theorem p_out_b {np hd : Nat} {W H : Nat → Nat} {G : GC} {row : Nat → Int32} {dp fd : Nat → Nat} {dy : Nat} (h : PzG np hd W H G row dp fd dy) (h30 : hd ≤ 30) {c d : Nat} (hc : c < 80) (hd2 : d ≤ 200) : ∀ (m i q : Nat), i + m = dp c → m < q → f_X2_outsideOf_b2 G.2.2.2.2.2.1 G.2.2.2.2.2.2.1 q (nI c) (nI d) (nI i) = some (oN (bhn dp fd c) d m i) := by
  have h1 := h.le hc
  have h2 := h.dep hc
  intro m
  induction m with
  | zero =>
    intro i q hi hq
    obtain ⟨q, rfl⟩ : ∃ r, q = r + 1 := ⟨q - 1, by omega⟩
    rw [f_X2_outsideOf_b2, pu_ck hc (by omega), nI_clamp (by omega), h2, if_pos (nI_le (by omega) (by omega)), oN]
  | succ m ih =>
    intro i q hi hq
    obtain ⟨q, rfl⟩ : ∃ r, q = r + 1 := ⟨q - 1, by omega⟩
    have h3 := bhn_le h hc i
    rw [f_X2_outsideOf_b2, pu_ck hc (by omega), nI_clamp (by omega), h2, if_neg (nI_ge (by omega) (by omega)), p_behindG h h30 hc (by omega), Option.bind_some, oN]
    by_cases h0 : bhn dp fd c i = d
    · rw [if_pos h0, if_pos (by rw [h0])]
    · rw [if_neg h0, if_neg (by rw [nI_eq (by omega) (by omega)]; exact h0), nI_1]
      exact ih (i + 1) q (by omega) (by omega)
theorem p_out {np hd : Nat} {W H : Nat → Nat} {G : GC} {row : Nat → Int32} {dp fd : Nat → Nat} {dy : Nat} (h : PzG np hd W H G row dp fd dy) (h30 : hd ≤ 30) {c d : Nat} (hc : c < 80) (hd2 : d ≤ 200) : f_X2_outsideOf G.2.2.2.2.2.1 G.2.2.2.2.2.2.1 (nI c) (nI d) = some (oN (bhn dp fd c) d (dp c) 0) := by
  have h1 := h.le hc
  exact p_out_b h h30 hc hd2 (dp c) 0 4000 (by omega) (by omega)
theorem r_out_b {np hd : Nat} {W H : Nat → Nat} {G : GC} {row : Nat → Int32} {dp fd : Nat → Nat} {dy : Nat} (h : PzG np hd W H G row dp fd dy) (h30 : hd ≤ 30) {c d : Nat} (hc : c < 80) (hd2 : d ≤ 200) : ∀ (m i q : Nat), i + m = dp c → m < q → f_X11_outsideOf_b2 2685 row q (nI c) (nI d) (nI i) = some (oN (bhn dp fd c) d m i) := by
  have h1 := h.le hc
  have h2 := h.many hc
  intro m
  induction m with
  | zero =>
    intro i q hi hq
    obtain ⟨q, rfl⟩ : ∃ r, q = r + 1 := ⟨q - 1, by omega⟩
    rw [f_X11_outsideOf_b2, pl2400, nI_add, pu_ck (by omega) (by omega), nI_clamp (by omega), h2, if_pos (nI_le (by omega) (by omega)), oN]
  | succ m ih =>
    intro i q hi hq
    obtain ⟨q, rfl⟩ : ∃ r, q = r + 1 := ⟨q - 1, by omega⟩
    have h3 := bhn_le h hc i
    rw [f_X11_outsideOf_b2, pl2400, nI_add, pu_ck (by omega) (by omega), nI_clamp (by omega), h2, if_neg (nI_ge (by omega) (by omega)), r_filmG h h30 hc (by omega), Option.bind_some, oN]
    by_cases h0 : bhn dp fd c i = d
    · rw [if_pos h0, if_pos (by rw [h0])]
    · rw [if_neg h0, if_neg (by rw [nI_eq (by omega) (by omega)]; exact h0), nI_1]
      exact ih (i + 1) q (by omega) (by omega)
theorem r_out {np hd : Nat} {W H : Nat → Nat} {G : GC} {row : Nat → Int32} {dp fd : Nat → Nat} {dy : Nat} (h : PzG np hd W H G row dp fd dy) (h30 : hd ≤ 30) {c d : Nat} (hc : c < 80) (hd2 : d ≤ 200) : f_X11_outsideOf 2685 row (nI c) (nI d) = some (oN (bhn dp fd c) d (dp c) 0) := by
  have h1 := h.le hc
  exact r_out_b h h30 hc hd2 (dp c) 0 4000 (by omega) (by omega)
theorem hv_oN {np hd : Nat} {W H : Nat → Nat} {G : GC} {row : Nat → Int32} {dp fd : Nat → Nat} {dy : Nat} (h : PzG np hd W H G row dp fd dy) (h30 : hd ≤ 30) {c d : Nat} (hc : c < 80) : oN (bhn dp fd c) d (dp c) 0 = -1 ↔ hv dp fd c d = false := by
  have h1 := h.le hc
  exact oN_any _ _ _ _ (by omega)
/-- later films lie outside: days rise -/
theorem PzG.rise {np hd : Nat} {W H : Nat → Nat} {G : GC} {row : Nat → Int32} {dp fd : Nat → Nat} {dy : Nat} (h : PzG np hd W H G row dp fd dy) {c : Nat} (hc : c < 80) : ∀ (k j : Nat), j + k + 1 < dp c → fd (30 * c + j) < fd (30 * c + (j + k + 1)) := by
  intro k
  induction k with
  | zero =>
    intro j hj
    exact (h.2.1 c hc j (by omega)).2.2.2.2 (by omega)
  | succ k ih =>
    intro j hj
    have h1 := ih j (by omega)
    have h2 := (h.2.1 c hc (j + k + 1) (by omega)).2.2.2.2 (by omega)
    rw [show j + (k + 1) + 1 = j + k + 1 + 1 by omega, ← Nat.add_assoc (30 * c)]
    exact Nat.lt_trans h1 h2
theorem cnt_any (g : Nat → Nat) (d : Nat) : ∀ m i, (∀ j k, i ≤ j → j < k → k < i + m → g j ≠ g k) → sF (fun j => if g j = d then 1 else 0) m i = (anyN g d m i).toNat := by
  intro m
  induction m with
  | zero =>
    intro i h
    rfl
  | succ m ih =>
    intro i h
    rw [sF, anyN, ih (i + 1) (fun j k h1 h2 h3 => h j k (by omega) h2 (by omega))]
    by_cases h0 : g i = d
    · have h4 : anyN g d m (i + 1) = false := by
        cases h5 : anyN g d m (i + 1) with
        | false => rfl
        | true =>
          obtain ⟨j, h6, h7, h8⟩ := (anyN_iff g d m (i + 1)).mp h5
          exact absurd (h0.trans h8.symm) (h i j (by omega) (by omega) (by omega))
      simp [h0, h4]
    · rw [beq_eq_false_iff_ne.mpr h0]
      simp [h0]
theorem r_onCell_b {row : Nat → Int32} {fd : Nat → Nat} {c d k : Nat} (hc : c < 80) (hk : k ≤ 30) (hm : row (2400 + c) = nI k) (hr : ∀ j, j < k → row (30 * c + j) = nI (fd (30 * c + j)) ∧ fd (30 * c + j) ≤ 200) (hd2 : d ≤ 200) : ∀ (m i q acc : Nat), i + m = k → m < q → f_X11_onCell_b5 2685 row q (nI c) (nI d) (nI acc) (nI i) = some (nI (acc + sF (fun j => if fd (30 * c + j) = d then 1 else 0) m i)) := by
  intro m
  induction m with
  | zero =>
    intro i q acc hi hq
    obtain ⟨q, rfl⟩ : ∃ r, q = r + 1 := ⟨q - 1, by omega⟩
    rw [f_X11_onCell_b5]
    simp -implicitDefEqProofs (disch := omega) only [pl0, pl1, pl2, pl3, pl4, pl5, pl6, pl7, pl8, pl9, pl10, pl11, pl12, pl13, pl14, pl15, pl16, pl17, pl18, pl19, pl20, pl21, pl22, pl23, pl24, pl25, pl26, pl27, pl28, pl29, pl30, pl31, pl32, pl48, pl57, pl60, pl61, pl80, pl97, pl99, pl100, pl122, pl150, pl160, pl199, pl200, pl201, pl255, pl305, pl600, pl999, pl1000, pl2400, pl2480, pl2681, pl2682, pl2683, pl2684, pl2685, pl9999, pl100000, pl1000000, pk_mul, nI_add, pk_sub, nI_clamp, nI_eq, nI_leI, nI_ltI, pk_div, pn_rem, pu_ck, Option.bind_some, if_pos, if_neg, and_true, true_and, if_true, if_false, hm, sF, Nat.add_zero]
  | succ m ih =>
    intro i q acc hi hq
    obtain ⟨q, rfl⟩ : ∃ r, q = r + 1 := ⟨q - 1, by omega⟩
    obtain ⟨h1, h2⟩ := hr i (by omega)
    rw [f_X11_onCell_b5, f_X11_onCell_b38, f_X11_onCell_b38]
    simp -implicitDefEqProofs (disch := omega) only [pl0, pl1, pl2, pl3, pl4, pl5, pl6, pl7, pl8, pl9, pl10, pl11, pl12, pl13, pl14, pl15, pl16, pl17, pl18, pl19, pl20, pl21, pl22, pl23, pl24, pl25, pl26, pl27, pl28, pl29, pl30, pl31, pl32, pl48, pl57, pl60, pl61, pl80, pl97, pl99, pl100, pl122, pl150, pl160, pl199, pl200, pl201, pl255, pl305, pl600, pl999, pl1000, pl2400, pl2480, pl2681, pl2682, pl2683, pl2684, pl2685, pl9999, pl100000, pl1000000, pk_mul, nI_add, pk_sub, nI_clamp, nI_eq, nI_leI, nI_ltI, pk_div, pn_rem, pu_ck, Option.bind_some, if_pos, if_neg, and_true, true_and, if_true, if_false, hm, h1, Nat.zero_add]
    by_cases h0 : fd (30 * c + i) = d
    · simp -implicitDefEqProofs (disch := omega) only [pl0, pl1, pl2, pl3, pl4, pl5, pl6, pl7, pl8, pl9, pl10, pl11, pl12, pl13, pl14, pl15, pl16, pl17, pl18, pl19, pl20, pl21, pl22, pl23, pl24, pl25, pl26, pl27, pl28, pl29, pl30, pl31, pl32, pl48, pl57, pl60, pl61, pl80, pl97, pl99, pl100, pl122, pl150, pl160, pl199, pl200, pl201, pl255, pl305, pl600, pl999, pl1000, pl2400, pl2480, pl2681, pl2682, pl2683, pl2684, pl2685, pl9999, pl100000, pl1000000, pk_mul, nI_add, pk_sub, nI_clamp, nI_eq, nI_leI, nI_ltI, pk_div, pn_rem, pu_ck, Option.bind_some, if_pos, if_neg, and_true, true_and, if_true, if_false, h0, ih (i + 1) q _ (by omega) (by omega), sF, Nat.add_assoc]
    · simp -implicitDefEqProofs (disch := omega) only [pl0, pl1, pl2, pl3, pl4, pl5, pl6, pl7, pl8, pl9, pl10, pl11, pl12, pl13, pl14, pl15, pl16, pl17, pl18, pl19, pl20, pl21, pl22, pl23, pl24, pl25, pl26, pl27, pl28, pl29, pl30, pl31, pl32, pl48, pl57, pl60, pl61, pl80, pl97, pl99, pl100, pl122, pl150, pl160, pl199, pl200, pl201, pl255, pl305, pl600, pl999, pl1000, pl2400, pl2480, pl2681, pl2682, pl2683, pl2684, pl2685, pl9999, pl100000, pl1000000, pk_mul, nI_add, pk_sub, nI_clamp, nI_eq, nI_leI, nI_ltI, pk_div, pn_rem, pu_ck, Option.bind_some, if_pos, if_neg, and_true, true_and, if_true, if_false, h0, ih (i + 1) q _ (by omega) (by omega), sF, Nat.add_assoc, Nat.add_zero, Nat.zero_add]
theorem r_onCell {np hd : Nat} {W H : Nat → Nat} {G : GC} {row : Nat → Int32} {dp fd : Nat → Nat} {dy : Nat} (h : PzG np hd W H G row dp fd dy) (h30 : hd ≤ 30) {c d : Nat} (hc : c < 80) (hd2 : d ≤ 200) : f_X11_onCell 2685 row (nI c) (nI d) = some (nI (hv dp fd c d).toNat) := by
  have h1 := h.le hc
  have h2 := r_onCell_b hc (by omega) (h.many hc) (fun j hj => by
    have h3 := h.2.1 c hc j hj
    have h4 := h.2.2.1.1
    exact ⟨h3.2.1, by omega⟩) hd2 (dp c) 0 4000 0 (by omega) (by omega)
  rw [Nat.zero_add, cnt_any (fun j => fd (30 * c + j)) d (dp c) 0 (fun j k _ h4 h5 => by
    have h6 := h.rise hc (k - j - 1) j (by omega)
    rw [show j + (k - j - 1) + 1 = k by omega] at h6
    show fd (30 * c + j) ≠ fd (30 * c + k)
    omega)] at h2
  have h7 : anyN (fun j => fd (30 * c + j)) d (dp c) 0 = hv dp fd c d := by
    rw [Bool.eq_iff_iff, anyN_iff, hv_iff]
    constructor
    · rintro ⟨j, -, h8, h9⟩
      exact ⟨j, by omega, h9⟩
    · rintro ⟨j, h8, h9⟩
      exact ⟨j, by omega, by omega, h9⟩
  rw [h7] at h2
  exact h2
def bF (f : Nat → Bool) : Nat → Nat → Nat → Nat
  | 0, _, acc => acc
  | m + 1, i, acc => bF f m (i + 1) (if f i = true then acc ||| 2 ^ i else acc)
theorem bF_tb (f : Nat → Bool) (k : Nat) : ∀ m i acc, (bF f m i acc).testBit k = (acc.testBit k || (decide (i ≤ k) && decide (k < i + m) && f k)) := by
  intro m
  induction m with
  | zero =>
    intro i acc
    have : ¬ (i ≤ k ∧ k < i + 0) := by omega
    by_cases h1 : i ≤ k
    · have h2 : ¬ k < i := by omega
      simp [bF, h2]
    · simp [bF, h1]
  | succ m ih =>
    intro i acc
    rw [bF, ih]
    by_cases h : f i = true
    · rw [if_pos h, Nat.testBit_or, Nat.testBit_two_pow]
      by_cases e : i = k
      · subst e
        simp [h]
      · have h1 : (i ≤ k) = (i + 1 ≤ k) := by simp; omega
        have h2 : (k < i + (m + 1)) = (k < i + 1 + m) := by simp; omega
        simp only [h1, h2, e, decide_false, Bool.or_false]
    · rw [if_neg h]
      by_cases e : i = k
      · subst e
        simp [h]
      · have h1 : (i ≤ k) = (i + 1 ≤ k) := by simp; omega
        have h2 : (k < i + (m + 1)) = (k < i + 1 + m) := by simp; omega
        simp only [h1, h2]
theorem bF_lt (f : Nat → Bool) (n : Nat) : ∀ m i acc, i + m ≤ n → acc < 2 ^ n → bF f m i acc < 2 ^ n := by
  intro m
  induction m with
  | zero =>
    intro i acc h1 h2
    exact h2
  | succ m ih =>
    intro i acc h1 h2
    rw [bF]
    refine ih (i + 1) _ (by omega) ?_
    by_cases h : f i = true
    · rw [if_pos h]
      exact Nat.or_lt_two_pow h2 (Nat.pow_lt_pow_right (by omega) (by omega))
    · rw [if_neg h]
      exact h2
