/-! seams, alike, thick -/
theorem pz00 : ((0 : Int32) = 0) = True := by decide
theorem p_isSeam {np hd : Nat} {W H : Nat → Nat} {G : GC} {row : Nat → Int32} {dp fd : Nat → Nat} {dy : Nat} (h : PzG np hd W H G row dp fd dy) (h30 : hd ≤ 30) {p a b : Nat} (hp : p < 5) (ha : a < 16) (hb : b < 16) : f_X1_isSeam G.2.2.2.2.2.1 G.2.2.2.2.2.2.1 (nI p) (nI a) (nI b) = some (if bhn dp fd (16 * p + a) 0 = bhn dp fd (16 * p + b) 0 then 0 else 1) := by
  have h1 := bhn_le h (c := 16 * p + a) (by omega) 0
  have h2 := bhn_le h (c := 16 * p + b) (by omega) 0
  rw [f_X1_isSeam, pl16, pk_mul, nI_add, nI_add, p_shownG h h30 (by omega), Option.bind_some, p_shownG h h30 (by omega), Option.bind_some]
  by_cases e : bhn dp fd (16 * p + a) 0 = bhn dp fd (16 * p + b) 0
  · rw [if_pos (by rw [e]), if_pos e]
  · rw [if_neg (by rw [nI_eq (by omega) (by omega)]; exact e), if_neg e]
/-- seams that begin at place i -/
def smB (w h i : Nat) : Bool := decide (i % 4 < 3) && inC w h (i + 1)
def smS (dp fd : Nat → Nat) (p w h i : Nat) : Nat :=
  if inC w h i = true then (if smB w h i = true then (if bhn dp fd (16 * p + i) 0 = bhn dp fd (16 * p + (i + 1)) 0 then 0 else 1) else 0) + (if inC w h (i + 4) = true then (if bhn dp fd (16 * p + i) 0 = bhn dp fd (16 * p + (i + 4)) 0 then 0 else 1) else 0) else 0
theorem p_seams_b {np hd : Nat} {W H : Nat → Nat} {G : GC} {row : Nat → Int32} {dp fd : Nat → Nat} {dy : Nat} (h : PzG np hd W H G row dp fd dy) (h30 : hd ≤ 30) {p w hh : Nat} (hp : p < 5) (hw : w ≤ 4) (hh4 : hh ≤ 4) : ∀ (m i q acc : Nat), i + m = 16 → m < q → f_X1_countSeams_b6 G.2.2.2.2.2.1 G.2.2.2.2.2.2.1 q (nI p) (nI (pzcb w hh)) (nI acc) (nI i) = some (nI (acc + sF (smS dp fd p w hh) m i)) := by
  have hk := pzcb_lt w hw hh hh4
  intro m
  induction m with
  | zero =>
    intro i q acc hi hq
    obtain ⟨q, rfl⟩ : ∃ r, q = r + 1 := ⟨q - 1, by omega⟩
    rw [f_X1_countSeams_b6, pl16, if_pos (nI_le (by omega) (by omega)), sF, Nat.add_zero]
  | succ m ih =>
    intro i q acc hi hq
    obtain ⟨q, rfl⟩ : ∃ r, q = r + 1 := ⟨q - 1, by omega⟩
    have e3 : nI i &&& 3 = nI (i % 4) := pk_andN (by omega) 2 (by rfl)
    have b0 : ((nI (pzcb w hh) >>> (nI i &&& 31)) &&& 1 = 1) = (inC w hh i = true) := by rw [bit_if hk (by omega), inC_cb hw hh4 (by omega)]
    have b1 : ((nI (pzcb w hh) >>> (nI (i + 1) &&& 31)) &&& 1 = 1) = (inC w hh (i + 1) = true) := by rw [bit_if hk (by omega), inC_cb hw hh4 (by omega)]
    have b4 : ((nI (pzcb w hh) >>> (nI (i + 4) &&& 31)) &&& 1 = 1) = (inC w hh (i + 4) = true) := by rw [bit_if hk (by omega), inC_cb hw hh4 (by omega)]
    have a4 : nI i + 4 = nI (i + 4) := by rw [pl4, nI_add]
    have hin4 : inC w hh (i + 4) = true → i + 4 < 16 := by
      intro h1
      rw [inC, Bool.and_eq_true, decide_eq_true_iff, decide_eq_true_iff] at h1
      omega
    rw [f_X1_countSeams_b6, pl16, if_neg (nI_ge (by omega) (by omega)), e3, f_X1_countSeams_b127, nI_1, f_X1_countSeams_b47, f_X1_countSeams_b48, f_X1_countSeams_b48, a4, sF, smS]
    simp -implicitDefEqProofs only [b0, b1, b4]
    by_cases hA : inC w hh i = true
    · rw [if_pos hA, if_pos hA]
      have hfin : ∀ (s t : Nat), s ≤ 1 → f_X1_countSeams_b95 G.2.2.2.2.2.1 G.2.2.2.2.2.2.1 (f_X1_countSeams_b6 G.2.2.2.2.2.1 G.2.2.2.2.2.2.1 q) (nI p) (nI (pzcb w hh)) (nI i) (if inC w hh (i + 4) = true then 1 else 0) (nI acc) (nI s) = some (nI (acc + (s + (if inC w hh (i + 4) = true then (if bhn dp fd (16 * p + i) 0 = bhn dp fd (16 * p + (i + 4)) 0 then 0 else 1) else 0) + sF (smS dp fd p w hh) m (i + 1)))) := by
        intro s t hs
        rw [f_X1_countSeams_b95, f_X1_countSeams_b123, f_X1_countSeams_b124, f_X1_countSeams_b124, f_X1_countSeams_b127, f_X1_countSeams_b127, nI_1, a4, nI_add, pl0, nI_add, pl1, nI_add]
        by_cases h4 : inC w hh (i + 4) = true
        · rw [if_pos h4, if_pos h4, if_neg (by decide), p_isSeam h h30 hp (by omega) (hin4 h4), Option.bind_some]
          by_cases e : bhn dp fd (16 * p + i) 0 = bhn dp fd (16 * p + (i + 4)) 0
          · rw [if_pos e, if_pos e, if_pos (by decide), ih (i + 1) q _ (by omega) (by omega)]
            congr 2
            omega
          · rw [if_neg e, if_neg e, if_neg (by decide), ih (i + 1) q _ (by omega) (by omega)]
            congr 2
            omega
        · rw [if_neg h4, if_neg h4, if_pos rfl, ih (i + 1) q _ (by omega) (by omega)]
          congr 2
          omega
      have h67 : ∀ t0 : Int32, f_X1_countSeams_b67 G.2.2.2.2.2.1 G.2.2.2.2.2.2.1 (f_X1_countSeams_b6 G.2.2.2.2.2.1 G.2.2.2.2.2.2.1 q) (nI p) (nI (pzcb w hh)) (nI acc) (nI i) 0 t0 = f_X1_countSeams_b95 G.2.2.2.2.2.1 G.2.2.2.2.2.2.1 (f_X1_countSeams_b6 G.2.2.2.2.2.1 G.2.2.2.2.2.2.1 q) (nI p) (nI (pzcb w hh)) (nI i) t0 (nI acc) 0 := by
        intro t0
        rw [f_X1_countSeams_b67, if_pos rfl, f_X1_countSeams_b94]
      have h67b : smB w hh i = true → ∀ t0 : Int32, f_X1_countSeams_b67 G.2.2.2.2.2.1 G.2.2.2.2.2.2.1 (f_X1_countSeams_b6 G.2.2.2.2.2.1 G.2.2.2.2.2.2.1 q) (nI p) (nI (pzcb w hh)) (nI acc) (nI i) 1 t0 = f_X1_countSeams_b95 G.2.2.2.2.2.1 G.2.2.2.2.2.2.1 (f_X1_countSeams_b6 G.2.2.2.2.2.1 G.2.2.2.2.2.2.1 q) (nI p) (nI (pzcb w hh)) (nI i) t0 (nI acc) (nI (if bhn dp fd (16 * p + i) 0 = bhn dp fd (16 * p + (i + 1)) 0 then 0 else 1)) := by
        intro hB t0
        rw [smB, Bool.and_eq_true, decide_eq_true_iff] at hB
        rw [f_X1_countSeams_b67, if_neg (by decide), nI_1, p_isSeam h h30 hp (by omega) (by omega), Option.bind_some, f_X1_countSeams_b94]
        by_cases e : bhn dp fd (16 * p + i) 0 = bhn dp fd (16 * p + (i + 1)) 0
        · rw [if_pos e, if_pos e, if_pos rfl]
          rfl
        · rw [if_neg e, if_neg e, if_neg (by decide)]
          rfl
      by_cases hB : smB w hh i = true
      · have hB2 := hB
        rw [smB, Bool.and_eq_true, decide_eq_true_iff] at hB2
        rw [if_neg (by rw [pl3]; exact nI_ge hB2.1 (by omega)), if_pos hB2.2, h67b hB, h67b hB, if_pos hB]
        have e1 := hfin (if bhn dp fd (16 * p + i) 0 = bhn dp fd (16 * p + (i + 1)) 0 then 0 else 1) 0 (by
          by_cases e : bhn dp fd (16 * p + i) 0 = bhn dp fd (16 * p + (i + 1)) 0
          · rw [if_pos e]; omega
          · rw [if_neg e]; omega)
        rw [← e1]
        by_cases h4 : inC w hh (i + 4) = true
        · rw [if_pos h4, if_pos h4]
        · rw [if_neg h4, if_neg h4]
      · have e1 := hfin 0 0 (by omega)
        rw [h67, h67, if_neg hB]
        have e2 : (if inC w hh (i + 4) = true then f_X1_countSeams_b95 G.2.2.2.2.2.1 G.2.2.2.2.2.2.1 (f_X1_countSeams_b6 G.2.2.2.2.2.1 G.2.2.2.2.2.2.1 q) (nI p) (nI (pzcb w hh)) (nI i) 1 (nI acc) 0 else f_X1_countSeams_b95 G.2.2.2.2.2.1 G.2.2.2.2.2.2.1 (f_X1_countSeams_b6 G.2.2.2.2.2.1 G.2.2.2.2.2.2.1 q) (nI p) (nI (pzcb w hh)) (nI i) 0 (nI acc) 0) = some (nI (acc + (0 + (if inC w hh (i + 4) = true then (if bhn dp fd (16 * p + i) 0 = bhn dp fd (16 * p + (i + 4)) 0 then 0 else 1) else 0) + sF (smS dp fd p w hh) m (i + 1)))) := by
          rw [← e1, ← pl0]
          by_cases h4 : inC w hh (i + 4) = true
          · rw [if_pos h4, if_pos h4]
          · rw [if_neg h4, if_neg h4]
        by_cases h3 : i % 4 < 3
        · have h5 : ¬ inC w hh (i + 1) = true := by
            intro h6
            apply hB
            rw [smB, h6]
            simp [h3]
          rw [if_neg (by rw [pl3]; exact nI_ge h3 (by omega)), if_neg h5]
          exact e2
        · rw [if_pos (by rw [pl3]; exact nI_le (by omega) (by omega))]
          exact e2
    · rw [if_neg hA, if_neg hA, Nat.zero_add]
      exact ih (i + 1) q _ (by omega) (by omega)
theorem r_seams_b {np hd : Nat} {W H : Nat → Nat} {G : GC} {s : CX6} {row : Nat → Int32} {pa : Nat → Nat → Int32} {dp fd : Nat → Nat} {dy : Nat} (h : PzG np hd W H G row dp fd dy) (h30 : hd ≤ 30) {p : Nat} (hN : PzN W H s pa p) (hp : p < 5) : ∀ (m i q acc : Nat), i + m = 16 → m < q → f_X11_seamsOf_b5 pa 2685 row q (nI p) (nI acc) (nI i) = some (nI (acc + sF (smS dp fd p (W p) (H p)) m i)) := by
  obtain ⟨⟨-, w4⟩, ⟨-, h4⟩, -, w0, -, h0, -⟩ := id hN
  have hC1 : ∀ i, i < 16 → f_X11_isCell pa (nI p) (nI (i % 4 + 1)) (nI (i / 4)) = some (if smB (W p) (H p) i = true then 1 else 0) := by
    intro i hi
    by_cases h1 : i % 4 + 1 < W p
    · have h2 : (i + 1) % 4 = i % 4 + 1 := by omega
      have h3 : (i + 1) / 4 = i / 4 := by omega
      by_cases h5 : i / 4 < H p
      · rw [r_isCellOk hp w0 h0 h1 h5 w4 h4, if_pos (by simp [smB, inC, h2, h3, h1, h5]; omega)]
      · rw [r_isCellNo hp w0 h0 w4 h4 (.inr (.inr (nI_le (by omega) (by omega)))), if_neg (by simp [smB, inC, h3, h5])]
    · rw [r_isCellNo hp w0 h0 w4 h4 (.inl (.inr (nI_le (by omega) (by omega)))), if_neg]
      rw [smB, inC, Bool.and_eq_true, Bool.and_eq_true, decide_eq_true_iff, decide_eq_true_iff, decide_eq_true_iff]
      rintro ⟨h5, h6, -⟩
      omega
  have hC4 : ∀ i, i < 16 → f_X11_isCell pa (nI p) (nI (i % 4)) (nI (i / 4 + 1)) = some (if inC (W p) (H p) (i + 4) = true then 1 else 0) := by
    intro i hi
    have h2 : (i + 4) % 4 = i % 4 := by omega
    have h3 : (i + 4) / 4 = i / 4 + 1 := by omega
    by_cases h1 : i % 4 < W p
    · by_cases h5 : i / 4 + 1 < H p
      · rw [r_isCellOk hp w0 h0 h1 h5 w4 h4, if_pos (by simp [inC, h2, h3, h1, h5])]
      · rw [r_isCellNo hp w0 h0 w4 h4 (.inr (.inr (nI_le (by omega) (by omega)))), if_neg (by simp [inC, h3, h5])]
    · rw [r_isCellNo hp w0 h0 w4 h4 (.inl (.inr (nI_le (by omega) (by omega)))), if_neg (by simp [inC, h2, h1])]
  intro m
  induction m with
  | zero =>
    intro i q acc hi hq
    obtain ⟨q, rfl⟩ : ∃ r, q = r + 1 := ⟨q - 1, by omega⟩
    rw [f_X11_seamsOf_b5, pl16, if_pos (nI_le (by omega) (by omega)), sF, Nat.add_zero]
  | succ m ih =>
    intro i q acc hi hq
    obtain ⟨q, rfl⟩ : ∃ r, q = r + 1 := ⟨q - 1, by omega⟩
    have hle := bhn_le h (c := 16 * p + i) (by omega) 0
    rw [f_X11_seamsOf_b5, pl16, if_neg (nI_ge (by omega) (by omega)), pk_mul, nI_add, pl0, r_filmG h h30 (by omega) (by omega), Option.bind_some, r_isOf hN hp (by omega), Option.bind_some, ← pl0, pl4, pk_rem (by omega) (by omega) (by omega), pk_div (by omega) (by omega) (by omega), nI_1, hC1 i (by omega), Option.bind_some, f_X11_seamsOf_b129, nI_1, nI_1, f_X11_seamsOf_b81, sF, smS]
    by_cases hA : inC (W p) (H p) i = true
    · rw [if_pos hA, if_pos hA, if_neg (by decide)]
      have hfin : ∀ s : Nat, f_X11_seamsOf_b82 pa 2685 row (f_X11_seamsOf_b5 pa 2685 row q) (nI p) (nI i) (nI (bhn dp fd (16 * p + i) 0)) (nI acc) (nI s) = some (nI (acc + (s + (if inC (W p) (H p) (i + 4) = true then (if bhn dp fd (16 * p + i) 0 = bhn dp fd (16 * p + (i + 4)) 0 then 0 else 1) else 0) + sF (smS dp fd p (W p) (H p)) m (i + 1)))) := by
        intro s
        rw [f_X11_seamsOf_b82, f_X11_seamsOf_b126, f_X11_seamsOf_b127, f_X11_seamsOf_b127, f_X11_seamsOf_b129, f_X11_seamsOf_b129, pl4, pk_rem (by omega) (by omega) (by omega), pk_div (by omega) (by omega) (by omega), nI_1, hC4 i (by omega), Option.bind_some, pl16, pk_mul, nI_add, nI_add, nI_add, pl0, nI_add, pl1, nI_add, nI_add]
        by_cases h6 : inC (W p) (H p) (i + 4) = true
        · have h7 : i + 4 < 16 := by
            rw [inC, Bool.and_eq_true, decide_eq_true_iff, decide_eq_true_iff] at h6
            omega
          have hle4 := bhn_le h (c := 16 * p + (i + 4)) (by omega) 0
          rw [if_pos h6, if_pos h6, if_neg (by decide), Nat.add_assoc (16 * p), r_filmG h h30 (by omega) (by omega), Option.bind_some]
          by_cases e : bhn dp fd (16 * p + i) 0 = bhn dp fd (16 * p + (i + 4)) 0
          · rw [if_pos (by rw [e]), if_pos e, ih (i + 1) q _ (by omega) (by omega)]
            congr 2
            omega
          · rw [if_neg (by rw [nI_eq (by omega) (by omega)]; exact fun e2 => e e2.symm), if_neg e, ih (i + 1) q _ (by omega) (by omega)]
            congr 2
            omega
        · rw [if_neg h6, if_neg h6, if_pos rfl, ih (i + 1) q _ (by omega) (by omega)]
          congr 2
          omega
      by_cases hB : smB (W p) (H p) i = true
      · have hB2 := hB
        rw [smB, Bool.and_eq_true, decide_eq_true_iff] at hB2
        have hle1 := bhn_le h (c := 16 * p + (i + 1)) (by omega) 0
        rw [if_pos hB, if_pos hB, if_neg (by decide), pl0, Nat.add_assoc (16 * p), r_filmG h h30 (by omega) (by omega), Option.bind_some, pl1]
        by_cases e : bhn dp fd (16 * p + i) 0 = bhn dp fd (16 * p + (i + 1)) 0
        · rw [if_pos (by rw [e]), if_pos e]
          exact hfin 0
        · rw [if_neg (by rw [nI_eq (by omega) (by omega)]; exact fun e2 => e e2.symm), if_neg e]
          exact hfin 1
      · rw [if_neg hB, if_neg hB, if_pos rfl, pl0]
        exact hfin 0
    · rw [if_neg hA, if_neg hA, if_pos rfl, Nat.zero_add]
      exact ih (i + 1) q _ (by omega) (by omega)
theorem p_seamsV {np hd : Nat} {W H : Nat → Nat} {G : GC} {row : Nat → Int32} {dp fd : Nat → Nat} {dy : Nat} (h : PzG np hd W H G row dp fd dy) (h30 : hd ≤ 30) {p w hh : Nat} (hp : p < 5) (hw : w ≤ 4) (hh4 : hh ≤ 4) : f_X1_countSeams G.2.2.2.2.2.1 G.2.2.2.2.2.2.1 (nI p) (nI (pzcb w hh)) = some (nI (sF (smS dp fd p w hh) 16 0)) := by
  have e := p_seams_b h h30 hp hw hh4 16 0 4000 0 (by omega) (by omega)
  rw [Nat.zero_add, ← pl0] at e
  exact e
theorem r_seamsV {np hd : Nat} {W H : Nat → Nat} {G : GC} {s : CX6} {row : Nat → Int32} {pa : Nat → Nat → Int32} {dp fd : Nat → Nat} {dy : Nat} (h : PzG np hd W H G row dp fd dy) (h30 : hd ≤ 30) {p : Nat} (hN : PzN W H s pa p) (hp : p < 5) : f_X11_seamsOf pa 2685 row (nI p) = some (nI (sF (smS dp fd p (W p) (H p)) 16 0)) := by
  have e := r_seams_b h h30 hN hp 16 0 4000 0 (by omega) (by omega)
  rw [Nat.zero_add, ← pl0] at e
  exact e
theorem a_seams {C : CS} {R : RS} (hc : PzC C R) (x1 : Int32) :
    (∃ r, fC_seams C x1 = some (0, r, C.v15) ∧ fR_seams R x1 = some (r, 0, R.v10)) ∨
    (fC_seams C x1 = some (2, 0, upd C.v15 1 (C.v15 1 + 1)) ∧ fR_seams R x1 = some (0, 1, upd R.v10 1 (R.v10 1 + 1))) := by
  obtain ⟨np, no, hd, W, H, hS, ⟨dp, fd, dy, hG⟩, -⟩ := hc
  have h30 := hS.2.2.1.2
  rcases pz_pane hS C.v15 x1 with ⟨h1, h2⟩ | ⟨p, hp, hp5, rfl, h1, h2⟩
  · exact .inr ⟨by simp -implicitDefEqProofs only [Option.bind_some, pz10, if_true, if_false, eq_self, ↓reduceIte, r_bad0, r_A1, r_A2, r_B1, r_B2, r_B3, r_C1, fC_seams, f_X10_seams, h1]; rfl, by simp -implicitDefEqProofs only [Option.bind_some, pz10, if_true, if_false, eq_self, ↓reduceIte, r_bad0, r_A1, r_A2, r_B1, r_B2, r_B3, r_C1, fR_seams, f_X11_seams, h2, f_X11_seams_b19]⟩
  · have hN := hS.2.2.2.2.2.2.2.2.2.1 p hp
    refine .inl ⟨nI (sF (smS dp fd p (W p) (H p)) 16 0), ?_, ?_⟩
    · simp -implicitDefEqProofs only [Option.bind_some, pz10, if_true, if_false, eq_self, ↓reduceIte, r_bad0, r_A1, r_A2, r_B1, r_B2, r_B3, r_C1, fC_seams, f_X10_seams, h1]
      rw [pu_ck hp5 (by omega), nI_clamp (by omega), hN.2.2.2.2.2.2.2.2, p_seamsV hG h30 hp5 hN.1.2 hN.2.1.2]
      rfl
    · simp -implicitDefEqProofs only [Option.bind_some, pz10, if_true, if_false, eq_self, ↓reduceIte, r_bad0, r_A1, r_A2, r_B1, r_B2, r_B3, r_C1, fR_seams, f_X11_seams, h2, f_X11_seams_b19, r_seamsV hG h30 hN hp5]
theorem q_seams {L i : Nat} {C : CS} {R : RS} {cells slots : Nat} (h : PzInv L i C R cells slots) (hi : i + 7 ≤ L) (x1 : Int32) : pS_seams (PzInv L (i + 7)) C R x1 cells slots := by
  rcases a_seams h.2.1 x1 with ⟨r, h1, h2⟩ | ⟨h1, h2⟩
  · exact ⟨(0, r, C.v15), (r, 0, R.v10), h1, h2, .inl rfl, rfl, fun _ => rfl, pz_fit h (by omega) (by omega), h.keep hi (by omega) (by omega) h.1⟩
  · exact ⟨(2, 0, upd C.v15 1 (C.v15 1 + 1)), (0, 1, upd R.v10 1 (R.v10 1 + 1)), h1, h2, .inr rfl, rfl, fun _ => rfl, pz_fit h (by omega) (by omega), h.keep hi (by omega) (by omega) h.1.up⟩
