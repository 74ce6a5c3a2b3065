/-! told cells; cost -/
theorem r_cellsOf_b {W H : Nat → Nat} {s : CX6} {pa : Nat → Nat → Int32} {p : Nat} (hN : PzN W H s pa p) (hp : p < 5) : ∀ (m i q acc : Nat), i + m = 16 → m < q → f_X11_cellsOf_b4 pa q (nI p) (nI acc) (nI i) = some (nI (bF (inC (W p) (H p)) m i acc)) := by
  intro m
  induction m with
  | zero =>
    intro i q acc hi hq
    obtain ⟨q, rfl⟩ : ∃ r, q = r + 1 := ⟨q - 1, by omega⟩
    rw [f_X11_cellsOf_b4, pl16, if_pos (nI_le (by omega) (by omega)), bF]
  | succ m ih =>
    intro i q acc hi hq
    obtain ⟨q, rfl⟩ : ∃ r, q = r + 1 := ⟨q - 1, by omega⟩
    have h0 : nI acc ||| (0 : Int32) = nI acc := by rw [pl0, pz_or, Nat.or_zero]
    rw [f_X11_cellsOf_b4, pl16, if_neg (nI_ge (by omega) (by omega)), r_isOf hN hp (by omega), Option.bind_some, f_X11_cellsOf_b27, f_X11_cellsOf_b27, h0, bF, nI_1]
    cases h2 : inC (W p) (H p) i with
    | false =>
      rw [if_pos (by decide), if_neg (by decide)]
      exact ih (i + 1) q _ (by omega) (by omega)
    | true =>
      rw [if_neg (by decide), if_pos rfl, pl1, pl31, pn_shl (by omega), pz_or]
      exact ih (i + 1) q _ (by omega) (by omega)
theorem bF_cb {w h : Nat} (hw : w ≤ 4) (hh : h ≤ 4) : bF (inC w h) 16 0 0 = pzcb w h := by
  apply Nat.eq_of_testBit_eq
  intro k
  rw [bF_tb]
  by_cases hk : k < 16
  · rw [inC_cb hw hh (by omega)]
    simp [hk]
  · rw [Nat.testBit_lt_two_pow (x := pzcb w h) (i := k)]
    · simp [hk]
    · exact Nat.lt_of_lt_of_le (pzcb_lt w hw h hh) (Nat.pow_le_pow_right (n := 2) (i := 16) (by omega) (by omega))
theorem r_cellsOf {W H : Nat → Nat} {s : CX6} {pa : Nat → Nat → Int32} {p : Nat} (hN : PzN W H s pa p) (hp : p < 5) : f_X11_cellsOf pa (nI p) = some (nI (pzcb (W p) (H p))) := by
  have e := r_cellsOf_b hN hp 16 0 4000 0 (by omega) (by omega)
  rw [bF_cb hN.1.2 hN.2.1.2, ← pl0] at e
  exact e
theorem nI_z {n : Nat} (h : n < 2 ^ 32) (h0 : nI n = 0) : n = 0 := by
  have := pk_tn h
  rw [h0] at this
  exact this.symm
theorem pz_sub {x : Int32} {m : Nat} (hm : m < 65536) : x &&& (nI m ^^^ -1) = 0 ↔ ∃ k, k < 65536 ∧ x = nI k ∧ k &&& m = k := by
  have e1 : (-1 : Int32) = nI (2 ^ 32 - 1) := by decide
  constructor
  · intro h
    obtain ⟨n, hn, rfl⟩ := pz_of32 x
    rw [e1, pz_xor, pz_and] at h
    have h2 : m ^^^ (2 ^ 32 - 1) < 2 ^ 32 := Nat.xor_lt_two_pow (by omega) (by omega)
    have h1 := nI_z (Nat.lt_of_le_of_lt Nat.and_le_left hn) h
    have h3 : n &&& m = n := by
      apply Nat.eq_of_testBit_eq
      intro k
      have h4 := congrArg (fun z => z.testBit k) h1
      simp only [Nat.testBit_and, Nat.testBit_xor, Nat.zero_testBit] at h4 ⊢
      by_cases hk : k < 32
      · rw [Nat.testBit_two_pow_sub_one] at h4
        simp only [hk, decide_true] at h4
        cases h5 : n.testBit k
        · rfl
        · rw [h5] at h4
          cases h6 : m.testBit k
          · rw [h6] at h4
            cases h4
          · rfl
      · rw [Nat.testBit_lt_two_pow (x := n) (i := k) (Nat.lt_of_lt_of_le hn (Nat.pow_le_pow_right (by omega) (by omega)))]
        rfl
    refine ⟨n, ?_, rfl, h3⟩
    have := Nat.and_le_right (n := n) (m := m)
    omega
  · rintro ⟨k, hk, rfl, h⟩
    rw [e1, pz_xor, pz_and]
    have : k &&& (m ^^^ (2 ^ 32 - 1)) = 0 := by
      apply Nat.eq_of_testBit_eq
      intro i
      have h4 := congrArg (fun z => z.testBit i) h
      simp only [Nat.testBit_and, Nat.testBit_xor, Nat.zero_testBit] at h4 ⊢
      by_cases hi : i < 32
      · rw [Nat.testBit_two_pow_sub_one]
        simp only [hi, decide_true]
        cases h5 : k.testBit i
        · rfl
        · rw [h5] at h4
          cases h6 : m.testBit i
          · rw [h6] at h4
            cases h4
          · rfl
      · rw [Nat.testBit_lt_two_pow (x := k) (i := i) (Nat.lt_of_lt_of_le hk (Nat.pow_le_pow_right (n := 2) (i := 16) (by omega) (by omega)))]
        rfl
    rw [this]
    rfl
theorem pz_cells {W H : Nat → Nat} {s : CX6} {pa : Nat → Nat → Int32} {p : Nat} (hN : PzN W H s pa p) (hp : p < 5) (v : Nat → Int32) (x : Int32) :
    (f_X10_needCells v s.2.2.2.2.2.2.2.2.2.2.1 (nI p) x = some (1, upd v 2 (v 2 + 1)) ∧ f_X11_areCells pa (nI p) x = some 0) ∨ ∃ k, k < 65536 ∧ x = nI k ∧ k &&& pzcb (W p) (H p) = k ∧ f_X10_needCells v s.2.2.2.2.2.2.2.2.2.2.1 (nI p) x = some (0, v) ∧ f_X11_areCells pa (nI p) x = some 1 := by
  have hc := r_cellsOf hN hp
  have e9 := hN.2.2.2.2.2.2.2.2
  have hlt := pzcb_lt (W p) hN.1.2 (H p) hN.2.1.2
  have hA : f_X10_needCells v s.2.2.2.2.2.2.2.2.2.2.1 (nI p) x = if x &&& (nI (pzcb (W p) (H p)) ^^^ -1) = 0 then some (0, v) else some (1, upd v 2 (v 2 + 1)) := by
    rw [f_X10_needCells, pu_ck hp (by omega), nI_clamp (by omega), e9, f_X10_needCells_b22, f_X10_needCells_b22, p_need1, p_need0]
    rfl
  have hB : f_X11_areCells pa (nI p) x = if x < 0 then some 0 else if x &&& (nI (pzcb (W p) (H p)) ^^^ -1) = 0 then some 1 else some 0 := by
    rw [f_X11_areCells, hc]
    rfl
  rw [hA, hB]
  by_cases h : x &&& (nI (pzcb (W p) (H p)) ^^^ -1) = 0
  · obtain ⟨k, hk, rfl, h1⟩ := (pz_sub hlt).mp h
    refine .inr ⟨k, hk, rfl, h1, if_pos h, ?_⟩
    rw [if_neg (nI_pos (by omega)), if_pos h]
  · refine .inl ⟨if_neg h, ?_⟩
    rw [if_neg h]
    by_cases h0 : x < 0
    · rw [if_pos h0]
    · rw [if_neg h0]
/-- the place of day d in f -/
def pos (f : Nat → Nat) (d : Nat) : Nat → Nat → Nat
  | 0, i => i
  | m + 1, i => if f i = d then i else pos f d m (i + 1)
theorem oN_pos (f : Nat → Nat) (d : Nat) : ∀ m i, oN f d m i = if anyN f d m i = true then nI (pos f d m i) else -1 := by
  intro m
  induction m with
  | zero =>
    intro i
    rfl
  | succ m ih =>
    intro i
    rw [oN, anyN, pos]
    by_cases h : f i = d
    · rw [if_pos h, beq_iff_eq.mpr h, if_pos h]
      rfl
    · rw [if_neg h, beq_eq_false_iff_ne.mpr h, if_neg h, ih, Bool.false_or]
theorem pos_le (f : Nat → Nat) (d : Nat) : ∀ m i, i ≤ pos f d m i ∧ pos f d m i ≤ i + m := by
  intro m
  induction m with
  | zero =>
    intro i
    simp [pos]
  | succ m ih =>
    intro i
    rw [pos]
    have := ih (i + 1)
    by_cases h : f i = d
    · rw [if_pos h]
      omega
    · rw [if_neg h]
      omega
def ps (dp fd : Nat → Nat) (c d : Nat) : Nat := pos (bhn dp fd c) d (dp c) 0
theorem oN_hv (dp fd : Nat → Nat) (c d : Nat) : oN (bhn dp fd c) d (dp c) 0 = if hv dp fd c d = true then nI (ps dp fd c d) else -1 := oN_pos _ _ _ _
/-- the cost from cell i on, of m more, over what was -/
def cO (dp fd : Nat → Nat) (p k d : Nat) : Nat → Nat → Nat → Int32
  | 0, _, acc => nI acc
  | m + 1, i, acc => if k.testBit i = true then (if hv dp fd (16 * p + i) d = true then cO dp fd p k d m (i + 1) (acc + ps dp fd (16 * p + i) d) else -1) else cO dp fd p k d m (i + 1) acc
def cst (dp fd : Nat → Nat) (p k d : Nat) : Int32 := if k = 0 then -1 else cO dp fd p k d 16 0 0
theorem bit_if {k i : Nat} (hk : k < 65536) (hi : i < 32) : ((nI k >>> (nI i &&& 31)) &&& 1 = 1) = (k.testBit i = true) := by
  rw [pl31, pl1, pn_bit (by omega) hi, nI_eq (by omega) (by omega), pn_tb]
theorem bit_if0 {k i : Nat} (hk : k < 65536) (hi : i < 32) : ((nI k >>> (nI i &&& 31)) &&& 1 = 0) = (k.testBit i = false) := by
  rw [pl31, pl1, pl0, pn_bit (by omega) hi, nI_eq (by omega) (by omega), Nat.testBit_eq_decide_div_mod_eq, decide_eq_false_iff_not]
  apply propext
  omega
theorem r_has {k i : Nat} (hk : k < 65536) (hi : i < 32) : f_X11_has (nI k) (nI i) = some (if k.testBit i = true then 1 else 0) := by
  rw [f_X11_has]
  by_cases h : k.testBit i = true
  · rw [if_pos (by rw [bit_if hk hi]; exact h), if_pos h]
  · rw [if_neg (by rw [bit_if hk hi]; exact h), if_neg h]
theorem neg1_ne {n : Nat} (h : n < 2 ^ 31) : ¬ nI n = -1 := by
  intro h1
  exact absurd (h1 ▸ nI_pos h) (by decide)
theorem p_cost_b {np hd : Nat} {W H : Nat → Nat} {G : GC} {row : Nat → Int32} {dp fd : Nat → Nat} {dy : Nat} (h : PzG np hd W H G row dp fd dy) (h30 : hd ≤ 30) {p k d : Nat} (hp : p < 5) (hk : k < 65536) (hd2 : d ≤ 200) : ∀ (m i q acc : Nat), i + m = 16 → m + 2 < q → acc ≤ 30 * i → f_X1_costOf_b14 G.2.2.2.2.2.1 G.2.2.2.2.2.2.1 q (nI p) (nI k) (nI d) (nI acc) (nI i) = some (cO dp fd p k d m i acc) := by
  intro m
  induction m with
  | zero =>
    intro i q acc hi hq ha
    obtain ⟨q, rfl⟩ : ∃ r, q = r + 1 := ⟨q - 1, by omega⟩
    rw [f_X1_costOf_b14, pl16, if_pos (nI_le (by omega) (by omega)), cO]
  | succ m ih =>
    intro i q acc hi hq ha
    obtain ⟨q, rfl⟩ : ∃ r, q = r + 1 := ⟨q - 1, by omega⟩
    have hl := h.le (c := 16 * p + i) (by omega)
    rw [f_X1_costOf_b14, pl16, if_neg (nI_ge (by omega) (by omega)), if_neg (neg1_ne (by omega)), cO]
    by_cases hb : k.testBit i = true
    · rw [if_pos (by rw [bit_if hk (by omega)]; exact hb), if_pos hb, pk_mul, nI_add, p_out h h30 (by omega) hd2, Option.bind_some, f_X1_costOf_b67, f_X1_costOf_b67, f_X1_costOf_b69, f_X1_costOf_b69, oN_hv]
      have hps := pos_le (bhn dp fd (16 * p + i)) d (dp (16 * p + i)) 0
      by_cases hh : hv dp fd (16 * p + i) d = true
      · rw [if_pos hh, if_pos hh, if_neg (neg1_ne (by show pos _ _ _ _ < _; omega)), nI_add, nI_1]
        exact ih (i + 1) q _ (by omega) (by omega) (by show acc + pos _ _ _ _ ≤ _; omega)
      · rw [if_neg hh, if_neg hh, if_pos rfl]
        obtain ⟨q, rfl⟩ : ∃ r, q = r + 1 := ⟨q - 1, by omega⟩
        rw [f_X1_costOf_b14]
        by_cases h16 : (16 : Int32) ≤ nI i + 1
        · rw [if_pos h16]
        · rw [if_neg h16, if_pos rfl]
    · rw [if_neg (by rw [bit_if hk (by omega)]; exact hb), if_neg hb, f_X1_costOf_b69, nI_1]
      exact ih (i + 1) q _ (by omega) (by omega) (by omega)
theorem p_cost {np hd : Nat} {W H : Nat → Nat} {G : GC} {row : Nat → Int32} {dp fd : Nat → Nat} {dy : Nat} (h : PzG np hd W H G row dp fd dy) (h30 : hd ≤ 30) {p k d : Nat} (hp : p < 5) (hk : k < 65536) (hd2 : d ≤ 200) : f_X1_costOf G.2.2.2.2.2.1 G.2.2.2.2.2.2.1 (nI p) (nI k) (nI d) = some (cst dp fd p k d) := by
  rw [f_X1_costOf, cst, f_X1_costOf_b9, f_X1_costOf_b9]
  by_cases h0 : k = 0
  · rw [if_pos (by rw [h0]; rfl), if_pos h0, f_X1_costOf_b14, if_neg (by decide), if_pos rfl]
  · rw [if_neg (nI_ne0 (by omega) (by omega)), if_neg h0, pl0]
    exact p_cost_b h h30 hp hk hd2 16 0 4000 0 (by omega) (by omega) (by omega)
theorem r_cost_b {np hd : Nat} {W H : Nat → Nat} {G : GC} {row : Nat → Int32} {dp fd : Nat → Nat} {dy : Nat} (h : PzG np hd W H G row dp fd dy) (h30 : hd ≤ 30) {p k d : Nat} (hp : p < 5) (hk : k < 65536) (hk0 : k ≠ 0) (hd2 : d ≤ 200) : ∀ (m i q acc : Nat), i + m = 16 → m < q → f_X11_costOf_b6 row q (nI p) (nI k) (nI d) (nI acc) (nI i) = some (cO dp fd p k d m i acc) := by
  intro m
  induction m with
  | zero =>
    intro i q acc hi hq
    obtain ⟨q, rfl⟩ : ∃ r, q = r + 1 := ⟨q - 1, by omega⟩
    rw [f_X11_costOf_b6, pl16, if_pos (nI_le (by omega) (by omega)), if_neg (nI_ne0 (by omega) (by omega)), cO]
  | succ m ih =>
    intro i q acc hi hq
    obtain ⟨q, rfl⟩ : ∃ r, q = r + 1 := ⟨q - 1, by omega⟩
    have hl := h.le (c := 16 * p + i) (by omega)
    rw [f_X11_costOf_b6, pl16, if_neg (nI_ge (by omega) (by omega)), r_has hk (by omega), Option.bind_some, cO]
    by_cases hb : k.testBit i = true
    · rw [if_pos hb, if_pos hb, if_neg (by decide), pk_mul, nI_add, r_out h h30 (by omega) hd2, Option.bind_some, f_X11_costOf_b57, oN_hv]
      have hps := pos_le (bhn dp fd (16 * p + i)) d (dp (16 * p + i)) 0
      by_cases hh : hv dp fd (16 * p + i) d = true
      · rw [if_pos hh, if_pos hh, if_neg (neg1_ne (by show pos _ _ _ _ < _; omega)), nI_add, nI_1]
        exact ih (i + 1) q _ (by omega) (by omega)
      · rw [if_neg hh, if_neg hh, if_pos rfl]
    · rw [if_neg hb, if_neg hb, if_pos rfl, f_X11_costOf_b57, nI_1]
      exact ih (i + 1) q _ (by omega) (by omega)
theorem r_cost_z {row : Nat → Int32} {p d : Nat} : ∀ (m i q acc : Nat), i + m = 16 → m < q → f_X11_costOf_b6 row q (nI p) 0 (nI d) (nI acc) (nI i) = some (-1) := by
  intro m
  induction m with
  | zero =>
    intro i q acc hi hq
    obtain ⟨q, rfl⟩ : ∃ r, q = r + 1 := ⟨q - 1, by omega⟩
    rw [f_X11_costOf_b6, pl16, if_pos (nI_le (by omega) (by omega)), if_pos rfl]
  | succ m ih =>
    intro i q acc hi hq
    obtain ⟨q, rfl⟩ : ∃ r, q = r + 1 := ⟨q - 1, by omega⟩
    have e := r_has (k := 0) (i := i) (by omega) (by omega)
    rw [← pl0] at e
    rw [f_X11_costOf_b6, pl16, if_neg (nI_ge (by omega) (by omega)), e, Option.bind_some, if_pos (by simp), f_X11_costOf_b57, nI_1]
    exact ih (i + 1) q _ (by omega) (by omega)
theorem r_cost {np hd : Nat} {W H : Nat → Nat} {G : GC} {row : Nat → Int32} {dp fd : Nat → Nat} {dy : Nat} (h : PzG np hd W H G row dp fd dy) (h30 : hd ≤ 30) {p k d : Nat} (hp : p < 5) (hk : k < 65536) (hd2 : d ≤ 200) : f_X11_costOf row (nI p) (nI k) (nI d) = some (cst dp fd p k d) := by
  rw [f_X11_costOf, cst]
  by_cases h0 : k = 0
  · rw [if_pos h0, h0, show nI 0 = 0 from rfl]
    have e := r_cost_z (row := row) (p := p) (d := d) 16 0 4000 0 (by omega) (by omega)
    rw [← pl0] at e
    exact e
  · rw [if_neg h0, pl0]
    exact r_cost_b h h30 hp hk h0 hd2 16 0 4000 0 (by omega) (by omega)
theorem a_cost {C : CS} {R : RS} (hc : PzC C R) (x1 x2 x3 : Int32) :
    (∃ r, fC_cost C x1 x2 x3 = some (0, r, C.v15) ∧ fR_cost R x1 x2 x3 = some (r, 0, R.v10)) ∨
    (fC_cost C x1 x2 x3 = some (2, 0, upd C.v15 1 (C.v15 1 + 1)) ∧ fR_cost R x1 x2 x3 = some (0, 1, upd R.v10 1 (R.v10 1 + 1))) ∨
    (fC_cost C x1 x2 x3 = some (1, 0, upd C.v15 2 (C.v15 2 + 1)) ∧ fR_cost R x1 x2 x3 = some (0, 2, upd R.v10 2 (R.v10 2 + 1))) := by
  obtain ⟨np, no, hd, W, H, hS, ⟨dp, fd, dy, hG⟩, -⟩ := hc
  have h30 := hS.2.2.1.2
  rcases pz_pane hS C.v15 x1 with ⟨h1, h2⟩ | ⟨p, hp, hp5, rfl, h1, h2⟩
  · exact .inr (.inl ⟨by simp -implicitDefEqProofs only [Option.bind_some, pz10, if_true, if_false, eq_self, ↓reduceIte, r_bad0, r_A1, r_A2, r_B1, r_B2, r_B3, r_C1, fC_cost, f_X10_cost, h1]; rfl, by simp -implicitDefEqProofs only [Option.bind_some, pz10, if_true, if_false, eq_self, ↓reduceIte, r_bad0, r_A1, r_A2, r_B1, r_B2, r_B3, r_C1, fR_cost, f_X11_cost, h2, f_X11_cost_b19]⟩)
  · have hN := hS.2.2.2.2.2.2.2.2.2.1 p hp
    rcases pz_cells hN hp5 C.v15 x2 with ⟨h3, h4⟩ | ⟨k, hk, rfl, hk2, h3, h4⟩
    · exact .inr (.inr ⟨by simp -implicitDefEqProofs only [Option.bind_some, pz10, if_true, if_false, eq_self, ↓reduceIte, r_bad0, r_A1, r_A2, r_B1, r_B2, r_B3, r_C1, fC_cost, f_X10_cost, h1, h3]; rfl, by simp -implicitDefEqProofs only [Option.bind_some, pz10, if_true, if_false, eq_self, ↓reduceIte, r_bad0, r_A1, r_A2, r_B1, r_B2, r_B3, r_C1, fR_cost, f_X11_cost, h2, f_X11_cost_b19, f_X11_cost_b48, f_X11_cost_b53, h4]⟩)
    · rcases pz_rng x3 1 200 (by omega) (by omega) with hb | ⟨d, hd1, hd2, rfl⟩
      · have hr := r_inNo hb
        rw [← pl1, ← pl200] at hb hr
        refine .inr (.inr ⟨?_, by simp -implicitDefEqProofs only [Option.bind_some, pz10, if_true, if_false, eq_self, ↓reduceIte, r_bad0, r_A1, r_A2, r_B1, r_B2, r_B3, r_C1, fR_cost, f_X11_cost, h2, f_X11_cost_b19, f_X11_cost_b48, f_X11_cost_b53, h4, hr]⟩)
        by_cases h0 : x3 < 1
        · simp -implicitDefEqProofs only [Option.bind_some, pz10, if_true, if_false, eq_self, ↓reduceIte, r_bad0, r_A1, r_A2, r_B1, r_B2, r_B3, r_C1, fC_cost, f_X10_cost, h1, h3, h0, f_X10_cost_b28, f_X10_cost_b29, p_need0]
          rfl
        · rcases hb with hb | hb
          · exact absurd hb h0
          · simp -implicitDefEqProofs only [Option.bind_some, pz10, if_true, if_false, eq_self, ↓reduceIte, r_bad0, r_A1, r_A2, r_B1, r_B2, r_B3, r_C1, fC_cost, f_X10_cost, h1, h3, h0, hb, f_X10_cost_b28, f_X10_cost_b29, p_need0]
            rfl
      · have hr := r_inOk hd1 hd2 (by omega)
        rw [← pl1, ← pl200] at hr
        have hl : ¬ nI d < 1 := nI_nlt (b := 1) hd1 (by omega)
        have hl2 : ¬ (200 : Int32) < nI d := nI_nlt (a := 200) hd2 (by omega)
        refine .inl ⟨cst dp fd p k d, ?_, ?_⟩
        · simp -implicitDefEqProofs only [Option.bind_some, pz10, if_true, if_false, eq_self, ↓reduceIte, r_bad0, r_A1, r_A2, r_B1, r_B2, r_B3, r_C1, fC_cost, f_X10_cost, h1, h3, hl, hl2, f_X10_cost_b29, p_need1, p_cost hG h30 hp5 hk hd2]
        · simp -implicitDefEqProofs only [Option.bind_some, pz10, if_true, if_false, eq_self, ↓reduceIte, r_bad0, r_A1, r_A2, r_B1, r_B2, r_B3, r_C1, fR_cost, f_X11_cost, h2, f_X11_cost_b19, f_X11_cost_b53, h4, hr, r_cost hG h30 hp5 hk hd2]
theorem q_cost {L i : Nat} {C : CS} {R : RS} {cells slots : Nat} (h : PzInv L i C R cells slots) (hi : i + 7 ≤ L) (x1 x2 x3 : Int32) : pS_cost (PzInv L (i + 7)) C R x1 x2 x3 cells slots := by
  rcases a_cost h.2.1 x1 x2 x3 with ⟨r, h1, h2⟩ | ⟨h1, h2⟩ | ⟨h1, h2⟩
  · exact ⟨(0, r, C.v15), (r, 0, R.v10), h1, h2, .inl rfl, rfl, fun _ => rfl, pz_fit h (by omega) (by omega), h.keep hi (by omega) (by omega) h.1⟩
  · exact ⟨(2, 0, upd C.v15 1 (C.v15 1 + 1)), (0, 1, upd R.v10 1 (R.v10 1 + 1)), h1, h2, .inr (.inl rfl), rfl, fun _ => rfl, pz_fit h (by omega) (by omega), h.keep hi (by omega) (by omega) h.1.up⟩
  · exact ⟨(1, 0, upd C.v15 2 (C.v15 2 + 1)), (0, 2, upd R.v10 2 (R.v10 2 + 1)), h1, h2, .inr (.inr rfl), rfl, fun _ => rfl, pz_fit h (by omega) (by omega), h.keep hi (by omega) (by omega) h.1.up⟩
