/-! look -/
theorem r_hasG {k i : Nat} (hk : k < 2 ^ 31) (hi : i < 32) : f_X11_has (nI k) (nI i) = some (if k.testBit i = true then 1 else 0) := by
  have e : ((nI k >>> (nI i &&& 31)) &&& 1 = 1) = (k.testBit i = true) := by
    rw [pl31, pl1, pn_bit hk hi, nI_eq (by omega) (by omega), pn_tb]
  rw [f_X11_has]
  by_cases h : k.testBit i = true
  · rw [if_pos (by rw [e]; exact h), if_pos h]
  · rw [if_neg (by rw [e]; exact h), if_neg h]
theorem ng_sh : ∀ e, e ≤ 30 → -((1 : Int32) <<< (nI e &&& 31)) = nI (2 ^ 32 - 2 ^ e) := by decide +kernel
theorem ng_tb : ∀ e, e ≤ 30 → ∀ k, k < 32 → (2 ^ 32 - 2 ^ e).testBit k = decide (e ≤ k) := by decide +kernel
def cBr (D e : Nat) : Nat := sF (fun k => (D.testBit k && decide (e ≤ k)).toNat) 31 0
def sBr (D e : Nat) : Nat := if allL (fun k => !(D.testBit k && decide (k < e))) 31 0 = true then 0 else 1
def LW (D e : Nat) : Nat := max (cBr D e) (sBr D e)
theorem sF_31 (f : Nat → Nat) (h : f 31 = 0) : sF f 32 0 = sF f 31 0 := by
  have e := sF_split f 31 1 0
  rw [show 31 + 1 = 32 from rfl] at e
  have e2 : sF f 1 (0 + 31) = f 31 + 0 := rfl
  rw [e, e2, h, Nat.add_zero]
theorem tb_hi {D k : Nat} (hD : D < 2 ^ 31) (hk : 31 ≤ k) : D.testBit k = false := Nat.testBit_lt_two_pow (Nat.lt_of_lt_of_le hD (Nat.pow_le_pow_right (by omega) hk))
theorem p_left {D e : Nat} (hD : D < 2 ^ 31) (he : e ≤ 30) : f_X0_leftAtWorst (nI D) (nI e) = some (nI (LW D e)) := by
  have hbl : D &&& (2 ^ 32 - 2 ^ e) < 2 ^ 32 := Nat.lt_of_le_of_lt Nat.and_le_left (by omega)
  have h1 : pc4 (D &&& (2 ^ 32 - 2 ^ e)) = cBr D e := by
    rw [pc4_eq hbl, sF_31 _ (by
      show ((D &&& (2 ^ 32 - 2 ^ e)).testBit 31).toNat = 0
      rw [Nat.testBit_and, tb_hi hD (Nat.le_refl _)]
      rfl), cBr]
    apply sF_ext
    intro k _ hk
    show ((D &&& (2 ^ 32 - 2 ^ e)).testBit k).toNat = _
    rw [Nat.testBit_and, ng_tb e he k (by omega)]
  have hx : (D &&& (2 ^ 32 - 2 ^ e)) ^^^ (2 ^ 32 - 1) < 2 ^ 32 := Nat.xor_lt_two_pow hbl (by omega)
  have hy : D &&& ((D &&& (2 ^ 32 - 2 ^ e)) ^^^ (2 ^ 32 - 1)) < 2 ^ 32 := Nat.lt_of_le_of_lt Nat.and_le_left (by omega)
  have htb : ∀ k, k < 31 → (D &&& ((D &&& (2 ^ 32 - 2 ^ e)) ^^^ (2 ^ 32 - 1))).testBit k = (D.testBit k && decide (k < e)) := by
    intro k hk
    rw [Nat.testBit_and, Nat.testBit_xor, Nat.testBit_and, ng_tb e he k (by omega), Nat.testBit_two_pow_sub_one]
    have h2 : decide (k < 32) = true := by simp; omega
    rw [h2]
    cases D.testBit k
    · rfl
    · by_cases h3 : k < e
      · have h4 : ¬ e ≤ k := by omega
        simp [h3, h4]
      · have h4 : e ≤ k := by omega
        simp [h3, h4]
  have hz : (D &&& ((D &&& (2 ^ 32 - 2 ^ e)) ^^^ (2 ^ 32 - 1)) = 0) ↔ allL (fun k => !(D.testBit k && decide (k < e))) 31 0 = true := by
    rw [allL_iff]
    constructor
    · intro h2 k _ hk
      have h3 := htb k (by omega)
      rw [h2, Nat.zero_testBit] at h3
      show (!(D.testBit k && decide (k < e))) = true
      rw [← h3]
      rfl
    · intro h2
      apply Nat.eq_of_testBit_eq
      intro k
      rw [Nat.zero_testBit]
      by_cases hk : k < 31
      · have h3 := h2 k (Nat.zero_le _) (by omega)
        rw [htb k hk]
        have h3 : (!(D.testBit k && decide (k < e))) = true := h3
        rwa [Bool.not_eq_true'] at h3
      · rw [Nat.testBit_and, tb_hi hD (by omega)]
        rfl
  have hc : cBr D e ≤ 31 := by
    have := sF_le (fun k => (D.testBit k && decide (e ≤ k)).toNat) 1 31 0 (fun j _ _ => by
      show (D.testBit j && decide (e ≤ j)).toNat ≤ 1
      cases (D.testBit j && decide (e ≤ j)) <;> decide)
    exact this
  rw [f_X0_leftAtWorst, ng_sh e he, pz_and, p_bitCount hbl, Option.bind_some, h1, show (-1 : Int32) = nI (2 ^ 32 - 1) by decide, pz_xor, pz_and, f_X0_leftAtWorst_b26, f_X0_leftAtWorst_b26, LW, sBr]
  by_cases h2 : allL (fun k => !(D.testBit k && decide (k < e))) 31 0 = true
  · rw [if_pos (by rw [hz.mpr h2]; rfl), if_pos h2, if_neg (nI_pos (by omega)), Nat.max_eq_left (by omega)]
  · rw [if_neg (fun h3 => h2 (hz.mp (nI_z hy h3))), if_neg h2]
    by_cases h4 : cBr D e < 1
    · rw [pl1, if_pos (nI_lt h4 (by omega)), Nat.max_eq_right (by omega)]
    · rw [pl1, if_neg (nI_nlt (by omega) (by omega)), Nat.max_eq_left (by omega)]
def mxF (f : Nat → Nat) : Nat → Nat → Nat → Nat
  | 0, _, acc => acc
  | m + 1, i, acc => mxF f m (i + 1) (max acc (f i))
theorem mxF_le (f : Nat → Nat) (B : Nat) : ∀ m i acc, (∀ j, i ≤ j → j < i + m → f j ≤ B) → acc ≤ B → mxF f m i acc ≤ B := by
  intro m
  induction m with
  | zero =>
    intro i acc h1 h2
    exact h2
  | succ m ih =>
    intro i acc h1 h2
    rw [mxF]
    refine ih (i + 1) _ (fun j h3 h4 => h1 j (by omega) (by omega)) ?_
    have := h1 i (by omega) (by omega)
    omega
theorem mxF_ge (f : Nat → Nat) : ∀ m i acc, acc ≤ mxF f m i acc ∧ ∀ j, i ≤ j → j < i + m → f j ≤ mxF f m i acc := by
  intro m
  induction m with
  | zero =>
    intro i acc
    exact ⟨Nat.le_refl _, fun j h1 h2 => absurd h1 (by omega)⟩
  | succ m ih =>
    intro i acc
    rw [mxF]
    obtain ⟨h1, h2⟩ := ih (i + 1) (max acc (f i))
    refine ⟨by omega, fun j h3 h4 => ?_⟩
    by_cases e : j = i
    · subst e
      omega
    · exact h2 j (by omega) (by omega)
def al (dp fd : Nat → Nat) (c D n : Nat) : Nat := if D.testBit n = true then sF (fun m => (D.testBit m && bhn dp fd c m == bhn dp fd c n).toNat) 31 0 else 0
theorem al_eq {np hd : Nat} {W H : Nat → Nat} {G : GC} {row : Nat → Int32} {dp fd : Nat → Nat} {dy : Nat} (h : PzG np hd W H G row dp fd dy) {c D n : Nat} (hc : c < 80) (hn : n < 31) (hb : D.testBit n = true) : al dp fd c D n = if n < dp c then 1 else cBr D (dp c) := by
  rw [al, if_pos hb]
  by_cases h0 : n < dp c
  · rw [if_pos h0]
    have e := sF_one n 1 31 0
    rw [if_pos (by omega)] at e
    rw [← e]
    apply sF_ext
    intro j _ _
    show (D.testBit j && bhn dp fd c j == bhn dp fd c n).toNat = if j = n then 1 else 0
    by_cases e2 : j = n
    · subst e2
      rw [if_pos rfl, hb, beq_self_eq_true]
      rfl
    · rw [if_neg e2, beq_eq_false_iff_ne.mpr, Bool.and_false]
      · rfl
      · intro h3
        by_cases hj : j < dp c
        · rcases Nat.lt_or_gt_of_ne e2 with h4 | h4
          · have := bhn_desc h hc h4 h0
            omega
          · have := bhn_desc h hc h4 hj
            omega
        · have h4 := (bhn_pos h hc h0).1
          rw [bhn, if_neg hj] at h3
          omega
  · rw [if_neg h0, cBr]
    apply sF_ext
    intro j _ _
    show (D.testBit j && bhn dp fd c j == bhn dp fd c n).toNat = (D.testBit j && decide (dp c ≤ j)).toNat
    have e1 : bhn dp fd c n = 0 := by rw [bhn, if_neg h0]
    rw [e1]
    by_cases hj : j < dp c
    · have h4 := (bhn_pos h hc hj).1
      rw [beq_eq_false_iff_ne.mpr (by omega)]
      have : ¬ dp c ≤ j := by omega
      simp [this]
    · have e2 : bhn dp fd c j = 0 := by rw [bhn, if_neg hj]
      have : dp c ≤ j := by omega
      rw [e2]
      simp [this]
theorem mx_LW {np hd : Nat} {W H : Nat → Nat} {G : GC} {row : Nat → Int32} {dp fd : Nat → Nat} {dy : Nat} (h : PzG np hd W H G row dp fd dy) {c D : Nat} (hc : c < 80) : mxF (al dp fd c D) 31 0 0 = LW D (dp c) := by
  have hge := mxF_ge (al dp fd c D) 31 0 0
  apply Nat.le_antisymm
  · apply mxF_le _ _ _ _ _ _ (Nat.zero_le _)
    intro n _ hn
    rw [LW]
    cases hb : D.testBit n with
    | false =>
      rw [al, hb, if_neg (by decide)]
      omega
    | true =>
      rw [al_eq h hc (by omega) hb]
      by_cases h0 : n < dp c
      · rw [if_pos h0, sBr, if_neg]
        · omega
        · rw [allL_iff]
          intro h1
          have h2 := h1 n (Nat.zero_le _) (by omega)
          rw [hb] at h2
          simp at h2
          omega
      · rw [if_neg h0]
        omega
  · rw [LW]
    apply Nat.max_le.mpr
    constructor
    · by_cases h0 : ∃ n, n < 31 ∧ D.testBit n = true ∧ dp c ≤ n
      · obtain ⟨n, h1, h2, h3⟩ := h0
        have h4 := hge.2 n (Nat.zero_le _) (by omega)
        rw [al_eq h hc h1 h2, if_neg (by omega)] at h4
        exact h4
      · have : cBr D (dp c) = 0 := by
          apply sF_zero
          intro j _ hj
          show (D.testBit j && decide (dp c ≤ j)).toNat = 0
          cases h1 : D.testBit j with
          | false => rfl
          | true =>
            have : ¬ dp c ≤ j := fun h2 => h0 ⟨j, by omega, h1, h2⟩
            simp [this]
        omega
    · rw [sBr]
      by_cases h0 : allL (fun k => !(D.testBit k && decide (k < dp c))) 31 0 = true
      · rw [if_pos h0]
        omega
      · rw [if_neg h0]
        have : ∃ n, n < 31 ∧ D.testBit n = true ∧ n < dp c := by
          apply Classical.byContradiction
          intro h1
          apply h0
          rw [allL_iff]
          intro j _ hj
          cases h2 : D.testBit j with
          | false => simp [h2]
          | true =>
            have : ¬ j < dp c := fun h3 => h1 ⟨j, by omega, h2, h3⟩
            simp [this]
        obtain ⟨n, h1, h2, h3⟩ := this
        have h4 := hge.2 n (Nat.zero_le _) (by omega)
        rw [al_eq h hc h1 h2, if_pos h3] at h4
        exact h4
theorem r_worst2 {np hd : Nat} {W H : Nat → Nat} {G : GC} {row : Nat → Int32} {dp fd : Nat → Nat} {dy : Nat} (h : PzG np hd W H G row dp fd dy) (h30 : hd ≤ 30) {p c D n : Nat} {wo : Int32} {k6 : Int32 → Int32 → Int32 → Int32 → Int32 → Option Int32} (hp : p < 5) (hc : c < 16) (hD : D < 2 ^ 31) (hn : n < 31) (hb : D.testBit n = true) : ∀ (m i q acc : Nat), i + m = 31 → m < q → f_X11_worstOf_b19 row k6 q (nI p) (nI c) (nI D) wo (nI n) (nI acc) (nI i) = f_X11_worstOf_b93 row k6 (nI p) (nI c) (nI D) wo (nI n) (nI (acc + sF (fun m => (D.testBit m && bhn dp fd (16 * p + c) m == bhn dp fd (16 * p + c) n).toNat) m i)) := by
  intro m
  induction m with
  | zero =>
    intro i q acc hi hq
    obtain ⟨q, rfl⟩ : ∃ r, q = r + 1 := ⟨q - 1, by omega⟩
    rw [f_X11_worstOf_b19, pl30, if_pos (nI_lt (by omega) (by omega)), sF, Nat.add_zero]
  | succ m ih =>
    intro i q acc hi hq
    obtain ⟨q, rfl⟩ : ∃ r, q = r + 1 := ⟨q - 1, by omega⟩
    have b1 := bhn_le h (c := 16 * p + c) (by omega) i
    have b2 := bhn_le h (c := 16 * p + c) (by omega) n
    rw [f_X11_worstOf_b19, pl30, if_neg (nI_nlt (by omega) (by omega)), r_hasG hD (by omega), Option.bind_some, if_pos hb, if_neg (show ¬ (1 : Int32) = 0 by decide), r_hasG hD (by omega), Option.bind_some, f_X11_worstOf_b83, f_X11_worstOf_b84, f_X11_worstOf_b84, nI_1, sF]
    cases h1 : D.testBit i with
    | false =>
      rw [if_neg (show ¬ (false = true) by decide), if_pos rfl, pl0, nI_add, ih (i + 1) q _ (by omega) (by omega), Bool.false_and, Bool.toNat_false, Nat.add_zero, Nat.zero_add]
    | true =>
      rw [if_pos rfl, if_neg (show ¬ (1 : Int32) = 0 by decide), pl16, pk_mul, nI_add, r_filmG h h30 (by omega) (by omega), Option.bind_some, r_filmG h h30 (by omega) (by omega), Option.bind_some, Bool.true_and]
      by_cases e : bhn dp fd (16 * p + c) i = bhn dp fd (16 * p + c) n
      · rw [if_pos (by rw [e]), pl1, nI_add, ih (i + 1) q _ (by omega) (by omega), beq_iff_eq.mpr e, Bool.toNat_true, Nat.add_assoc]
      · rw [if_neg (by rw [nI_eq (by omega) (by omega)]; exact e), pl0, nI_add, ih (i + 1) q _ (by omega) (by omega), beq_eq_false_iff_ne.mpr e, Bool.toNat_false, Nat.add_zero, Nat.zero_add]
theorem r_worst1 {np hd : Nat} {W H : Nat → Nat} {G : GC} {row : Nat → Int32} {dp fd : Nat → Nat} {dy : Nat} (h : PzG np hd W H G row dp fd dy) (h30 : hd ≤ 30) {p c D : Nat} (hp : p < 5) (hc : c < 16) (hD : D < 2 ^ 31) : ∀ (m i q acc : Nat), i + m = 31 → m < q → acc ≤ 31 → f_X11_worstOf_b6 row q (nI p) (nI c) (nI D) (nI acc) (nI i) = some (nI (mxF (al dp fd (16 * p + c) D) m i acc)) := by
  intro m
  induction m with
  | zero =>
    intro i q acc hi hq ha
    obtain ⟨q, rfl⟩ : ∃ r, q = r + 1 := ⟨q - 1, by omega⟩
    rw [f_X11_worstOf_b6, pl30, if_pos (nI_lt (by omega) (by omega)), mxF]
  | succ m ih =>
    intro i q acc hi hq ha
    obtain ⟨q, rfl⟩ : ∃ r, q = r + 1 := ⟨q - 1, by omega⟩
    have hal : al dp fd (16 * p + c) D i ≤ 31 := by
      rw [al]
      by_cases hb : D.testBit i = true
      · rw [if_pos hb]
        have := sF_le (fun m => (D.testBit m && bhn dp fd (16 * p + c) m == bhn dp fd (16 * p + c) i).toNat) 1 31 0 (fun j _ _ => by
          show (D.testBit j && bhn dp fd (16 * p + c) j == bhn dp fd (16 * p + c) i).toNat ≤ 1
          cases (D.testBit j && bhn dp fd (16 * p + c) j == bhn dp fd (16 * p + c) i) <;> decide)
        exact this
      · rw [if_neg hb]
        omega
    have hfin : f_X11_worstOf_b93 row (f_X11_worstOf_b6 row q) (nI p) (nI c) (nI D) (nI acc) (nI i) (nI (al dp fd (16 * p + c) D i)) = some (nI (mxF (al dp fd (16 * p + c) D) (m + 1) i acc)) := by
      rw [f_X11_worstOf_b93, f_X11_more, mxF, nI_1]
      by_cases h0 : acc ≤ al dp fd (16 * p + c) D i
      · rw [if_pos (nI_le h0 (by omega)), Option.bind_some, Nat.max_eq_right h0]
        exact ih (i + 1) q _ (by omega) (by omega) hal
      · rw [if_neg (nI_ge (by omega) (by omega)), Option.bind_some, Nat.max_eq_left (by omega)]
        exact ih (i + 1) q _ (by omega) (by omega) ha
    rw [f_X11_worstOf_b6, pl30, if_neg (nI_nlt (by omega) (by omega)), pl0]
    by_cases hb : D.testBit i = true
    · rw [r_worst2 h h30 hp hc hD (by omega) hb 31 0 4000 0 (by omega) (by omega), Nat.zero_add]
      rw [al, if_pos hb] at hfin
      exact hfin
    · rw [al, if_neg hb] at hfin
      rw [show (4000 : Nat) = 3999 + 1 from rfl, f_X11_worstOf_b19, pl30, if_neg (nI_nlt (by omega) (by omega)), r_hasG hD (by omega), Option.bind_some, if_neg hb, if_pos rfl]
      exact hfin
theorem r_worst {np hd : Nat} {W H : Nat → Nat} {G : GC} {row : Nat → Int32} {dp fd : Nat → Nat} {dy : Nat} (h : PzG np hd W H G row dp fd dy) (h30 : hd ≤ 30) {p c D : Nat} (hp : p < 5) (hc : c < 16) (hD : D < 2 ^ 31) : f_X11_worstOf row (nI p) (nI c) (nI D) = some (nI (LW D (dp (16 * p + c)))) := by
  have e := r_worst1 h h30 hp hc hD 31 0 4000 0 (by omega) (by omega) (by omega)
  rw [mx_LW h (by omega), ← pl0] at e
  exact e
theorem r_inBook_b {bo : Nat → Nat → Int32} {n c : Nat} {xy : Nat → Nat} {m33 : Int32} (hn : n ≤ 8) (hm : m33 = nI n) (hc : c < 16) (hx : ∀ i, i < n → xy i < 16 ∧ bo i 0 = nI (xy i % 4) ∧ bo i 1 = nI (xy i / 4)) : ∀ (m i q : Nat), i + m = n → m < q → f_X11_isInBook_b2 m33 bo q (nI c) (nI i) = some (if anyN xy c m i = true then 1 else 0) := by
  intro m
  induction m with
  | zero =>
    intro i q hi hq
    obtain ⟨q, rfl⟩ : ∃ r, q = r + 1 := ⟨q - 1, by omega⟩
    rw [f_X11_isInBook_b2, if_pos (by rw [hm]; exact nI_le (by omega) (by omega)), anyN, if_neg (by decide)]
  | succ m ih =>
    intro i q hi hq
    obtain ⟨q, rfl⟩ : ∃ r, q = r + 1 := ⟨q - 1, by omega⟩
    obtain ⟨x1, x2, x3⟩ := hx i (by omega)
    have e : (4 : Int32) * nI (xy i / 4) + nI (xy i % 4) = nI (xy i) := by
      rw [pl4, pk_mul, nI_add]
      congr 1
      omega
    rw [f_X11_isInBook_b2, if_neg (by rw [hm]; exact nI_ge (by omega) (by omega)), pu_ck (by omega) (by omega), pu_ck (by omega) (by omega), nI_clamp (by omega), show ((0 : Int32).toNatClampNeg) = 0 from rfl, show ((1 : Int32).toNatClampNeg) = 1 from rfl, x2, x3, e, nI_1, anyN]
    by_cases h0 : xy i = c
    · rw [if_pos (by rw [h0]), beq_iff_eq.mpr h0, Bool.true_or, if_pos rfl]
    · rw [if_neg (by rw [nI_eq (by omega) (by omega)]; exact h0), beq_eq_false_iff_ne.mpr h0, Bool.false_or]
      exact ih (i + 1) q (by omega) (by omega)
theorem any_bits {xy : Nat → Nat} {n c : Nat} : anyN xy c n 0 = (pzBits xy n).testBit c := by
  rw [Bool.eq_iff_iff, anyN_iff, pzBits_tb]
  constructor
  · rintro ⟨j, h1, h2, h3⟩
    exact ⟨j, by omega, h3⟩
  · rintro ⟨j, h1, h3⟩
    exact ⟨j, by omega, by omega, h3⟩
theorem lk_loop {np hd : Nat} {W H : Nat → Nat} {G : GC} {s : CX6} {to row v : Nat → Int32} {pa bo : Nat → Nat → Int32} {dp fd : Nat → Nat} {dy : Nat} (h : PzG np hd W H G row dp fd dy) (h30 : hd ≤ 30) {p n D U : Nat} {xy : Nat → Nat} {m33 b0 b1 : Int32} {vc vd : Nat → Int32} {a : Nat} (hN : PzN W H s pa p) (hp : p < 5) (hn : n ≤ 8) (hm : m33 = nI n) (hD : D < 2 ^ 31) (hU : U < 65536) (ha : a ≤ 1) (hUb : ∀ i, i < 16 → U.testBit i = (inC (W p) (H p) i && !((pzBits xy n).testBit i))) (hx : ∀ i, i < n → xy i < 16 ∧ bo i 0 = nI (xy i % 4) ∧ bo i 1 = nI (xy i / 4)) : ∀ (m i q : Nat), i + m = 16 → m < q → ∀ (x7 x8 x4 : Int32), (x7 = -1 ∧ x8 = -1) ∨ (x7 ≠ -1 ∧ x8 = x4) → ∃ r, f_X0_nextLook_b28 b0 b1 vc vd G.2.2.2.2.2.1 G.2.2.2.2.2.2.1 q (nI p) (nI a) (nI D) (nI U) x7 x8 (nI i) = some r ∧ f_X11_look_b67 m33 to row pa bo q 0 v (nI p) (nI a) x7 x4 (nI D) (nI i) = some (r, 0, v) := by
  intro m
  induction m with
  | zero =>
    intro i q hi hq x7 x8 x4 hx7
    obtain ⟨q, rfl⟩ : ∃ r, q = r + 1 := ⟨q - 1, by omega⟩
    rw [f_X0_nextLook_b28, f_X11_look_b67, pl16, if_pos (nI_le (by omega) (by omega)), if_pos (nI_le (by omega) (by omega))]
    by_cases h0 : nI a = 0
    · rw [if_pos h0, if_pos h0]
      exact ⟨_, rfl, rfl⟩
    · rw [if_neg h0, if_neg h0]
      rcases hx7 with ⟨h1, h2⟩ | ⟨h1, h2⟩
      · rw [if_pos h1, h1, h2]
        exact ⟨_, rfl, rfl⟩
      · rw [if_neg h1, h2]
        exact ⟨_, rfl, rfl⟩
  | succ m ih =>
    intro i q hi hq x7 x8 x4 hx7
    obtain ⟨q, rfl⟩ : ∃ r, q = r + 1 := ⟨q - 1, by omega⟩
    have hle := h.le (c := 16 * p + i) (by omega)
    have e1 := r_inBook_b (m33 := m33) (c := i) hn hm (by omega) hx n 0 4000 (by omega) (by omega)
    rw [any_bits, ← pl0] at e1
    have hu := hUb i (by omega)
    rw [f_X0_nextLook_b28, f_X11_look_b67, pl16, if_neg (nI_ge (by omega) (by omega)), if_neg (nI_ge (by omega) (by omega)), pk_mul, nI_add, pu_ck (by omega) (by omega), nI_clamp (by omega), h.dep (by omega), p_left hD (by omega), Option.bind_some, r_isOf hN hp (by omega), Option.bind_some, f_X11_isInBook, e1, Option.bind_some, r_worst h h30 hp (by omega) hD, Option.bind_some, f_X0_nextLook_b78, f_X0_nextLook_b86, f_X0_nextLook_b86, f_X11_look_b122, f_X11_look_b129, f_X11_look_b129, nI_1]
    cases hA : inC (W p) (H p) i with
    | false =>
      rw [hA, Bool.false_and] at hu
      rw [if_neg (by rw [bit_if hU (by omega), hu]; decide), if_pos (by decide)]
      exact ih (i + 1) q (by omega) (by omega) _ _ _ hx7
    | true =>
      rw [if_neg (show ¬ (if true = true then (1 : Int32) else 0) = 0 by decide)]
      cases hB : (pzBits xy n).testBit i with
      | true =>
        rw [hA, hB] at hu
        rw [if_neg (by rw [bit_if hU (by omega), hu]; decide), if_neg (by decide)]
        exact ih (i + 1) q (by omega) (by omega) _ _ _ hx7
      | false =>
        rw [hA, hB] at hu
        rw [if_pos (by rw [bit_if hU (by omega), hu]; rfl), if_pos (show (if false = true then (1 : Int32) else 0) = 0 by decide)]
        by_cases h1 : x7 = -1
        · rw [if_pos h1, if_pos h1]
          exact ih (i + 1) q (by omega) (by omega) _ _ _ (.inr ⟨neg1_ne (by omega), rfl⟩)
        · rw [if_neg h1, if_neg h1]
          rcases hx7 with ⟨h2, h3⟩ | ⟨h2, h3⟩
          · exact absurd h2 h1
          · rw [h3]
            by_cases h4 : x4 ≤ nI (LW D (dp (16 * p + i)))
            · rw [if_pos h4, if_neg (Int32.not_lt.mpr h4)]
              exact ih (i + 1) q (by omega) (by omega) _ _ _ (.inr ⟨h1, rfl⟩)
            · rw [if_neg h4, if_pos (Int32.not_le.mp h4)]
              exact ih (i + 1) q (by omega) (by omega) _ _ _ (.inr ⟨neg1_ne (by omega), rfl⟩)
theorem a_look {C : CS} {R : RS} (hc : PzC C R) (x1 x2 : Int32) :
    (∃ r, fC_look C x1 x2 = some (0, r, C.v15) ∧ fR_look R x1 x2 = some (r, 0, R.v10)) ∨
    (fC_look C x1 x2 = some (2, 0, upd C.v15 1 (C.v15 1 + 1)) ∧ fR_look R x1 x2 = some (0, 1, upd R.v10 1 (R.v10 1 + 1))) ∨
    (fC_look C x1 x2 = some (1, 0, upd C.v15 2 (C.v15 2 + 1)) ∧ fR_look R x1 x2 = some (0, 2, upd R.v10 2 (R.v10 2 + 1))) := by
  obtain ⟨np, no, hd, W, H, hS, ⟨dp, fd, dy, hG⟩, -, hB, -⟩ := hc
  have h30 := hS.2.2.1.2
  rcases pz_pane hS C.v15 x1 with ⟨h1, h2⟩ | ⟨p, hp, hp5, rfl, h1, h2⟩
  · exact .inr (.inl ⟨by simp -implicitDefEqProofs only [Option.bind_some, pz10, if_true, if_false, eq_self, ↓reduceIte, r_bad0, r_A1, r_A2, r_B1, r_B2, r_B3, r_C1, fC_look, f_X10_look, h1]; rfl, by simp -implicitDefEqProofs only [Option.bind_some, pz10, if_true, if_false, eq_self, ↓reduceIte, r_bad0, r_A1, r_A2, r_B1, r_B2, r_B3, r_C1, fR_look, f_X11_look, h2, f_X11_look_b19]⟩)
  · rcases pz_what C.v15 x2 1 (by omega) with ⟨h3, h4⟩ | ⟨a, ha, rfl, h3, h4⟩
    · rw [← pl1] at h3 h4
      exact .inr (.inr ⟨by simp -implicitDefEqProofs only [Option.bind_some, pz10, if_true, if_false, eq_self, ↓reduceIte, r_bad0, r_A1, r_A2, r_B1, r_B2, r_B3, r_C1, fC_look, f_X10_look, h1, h3]; rfl, by simp -implicitDefEqProofs only [Option.bind_some, pz10, if_true, if_false, eq_self, ↓reduceIte, r_bad0, r_A1, r_A2, r_B1, r_B2, r_B3, r_C1, fR_look, f_X11_look, h2, f_X11_look_b19, f_X11_look_b42, h4]⟩)
    · rw [← pl1] at h3 h4
      have hN := hS.2.2.2.2.2.2.2.2.2.1 p hp
      obtain ⟨n, xy, dd, hn, hb0, hb1, hb2, hx⟩ := hB.fn
      have hD : dpB dp fd xy dd p (W p) (H p) n < 2 ^ 31 := bF_lt _ 31 31 0 0 (by omega) (by omega)
      have hcb := pzcb_lt (W p) hN.1.2 (H p) hN.2.1.2
      have hbl := pzBits_lt xy n (fun j hj => (hx j hj).1)
      have hUl : pzcb (W p) (H p) &&& (pzBits xy n ^^^ (2 ^ 32 - 1)) < 65536 := Nat.lt_of_le_of_lt Nat.and_le_left hcb
      have eU : nI (pzcb (W p) (H p)) &&& (C.b1.2.1 ^^^ -1) = nI (pzcb (W p) (H p) &&& (pzBits xy n ^^^ (2 ^ 32 - 1))) := by
        rw [hb2, show (-1 : Int32) = nI (2 ^ 32 - 1) by decide, pz_xor, pz_and]
      have ed := p_depths hG h30 hp5 hN.1.2 hN.2.1.2 hn hb0 hb2 (fun i hi => by
        obtain ⟨a1, a2, a3, a4, a5, a6, a7⟩ := hx i hi
        exact ⟨a1, a2, a5, a6⟩)
      have er := r_depths hG h30 hN hp5 hn hb1 (fun i hi => by
        obtain ⟨a1, a2, a3, a4, a5, a6, a7⟩ := hx i hi
        exact ⟨a1, a3, a4, a5, a7⟩)
      obtain ⟨r, e1, e2⟩ := lk_loop (to := R.v12) (v := R.v10) (bo := R.g23) (b0 := C.b1.1) (b1 := C.b1.2.1) (vc := C.b1.2.2.1) (vd := C.b1.2.2.2) hG h30 hN hp5 hn hb1 hD hUl ha (fun i hi => by
        rw [Nat.testBit_and, Nat.testBit_xor, Nat.testBit_two_pow_sub_one, inC_cb hN.1.2 hN.2.1.2 (by omega)]
        have : decide (i < 32) = true := by simp; omega
        rw [this, Bool.xor_true]) (fun i hi => by
        obtain ⟨a1, a2, a3, a4, a5, a6, a7⟩ := hx i hi
        exact ⟨a1, a3, a4⟩) 16 0 4000 (by omega) (by omega) (-1) (-1) 0 (.inl ⟨rfl, rfl⟩)
      rw [← eU] at e1
      rw [← pl0] at e1 e2
      refine .inl ⟨r, ?_, by simp -implicitDefEqProofs only [Option.bind_some, pz10, if_true, if_false, eq_self, ↓reduceIte, r_bad0, r_A1, r_A2, r_B1, r_B2, r_B3, r_C1, fR_look, f_X11_look, h2, f_X11_look_b19, f_X11_look_b42, h4, er]; exact e2⟩
      have hk : ∀ t : Int32, t = nI a → f_X10_look_b42 C.s1.1 C.s1.2.2.2.2.2.2.2.2.2.2.1 C.b1.1 C.b1.2.1 C.b1.2.2.1 C.b1.2.2.2 C.n.2.2.2.2.2.1 C.n.2.2.2.2.2.2.1 C.v15 (nI p) (nI (pzcb (W p) (H p))) t = some (0, r, C.v15) := by
        intro t ht
        rw [ht, f_X10_look_b42, f_X0_nextLook, ed, Option.bind_some, e1]
        rfl
      simp -implicitDefEqProofs only [Option.bind_some, pz10, if_true, if_false, eq_self, ↓reduceIte, r_bad0, r_A1, r_A2, r_B1, r_B2, r_B3, r_C1, fC_look, f_X10_look, h1, h3]
      rw [pu_ck hp5 (by omega), nI_clamp (by omega), hN.2.2.2.2.2.2.2.2]
      have ha2 : a = 0 ∨ a = 1 := by omega
      rcases ha2 with rfl | rfl
      · rw [if_neg (by decide)]
        exact hk 0 rfl
      · rw [if_pos (by decide)]
        exact hk 1 rfl
theorem q_look {L i : Nat} {C : CS} {R : RS} {cells slots : Nat} (h : PzInv L i C R cells slots) (hi : i + 7 ≤ L) (x1 x2 : Int32) : pS_look (PzInv L (i + 7)) C R x1 x2 cells slots := by
  rcases a_look h.2.1 x1 x2 with ⟨r, h1, h2⟩ | ⟨h1, h2⟩ | ⟨h1, h2⟩
  · exact ⟨(0, r, C.v15), (r, 0, R.v10), h1, h2, .inl rfl, rfl, fun _ => rfl, pz_fit h (by omega) (by omega), h.keep hi (by omega) (by omega) h.1⟩
  · exact ⟨(2, 0, upd C.v15 1 (C.v15 1 + 1)), (0, 1, upd R.v10 1 (R.v10 1 + 1)), h1, h2, .inr (.inl rfl), rfl, fun _ => rfl, pz_fit h (by omega) (by omega), h.keep hi (by omega) (by omega) h.1.up⟩
  · exact ⟨(1, 0, upd C.v15 2 (C.v15 2 + 1)), (0, 2, upd R.v10 2 (R.v10 2 + 1)), h1, h2, .inr (.inr rfl), rfl, fun _ => rfl, pz_fit h (by omega) (by omega), h.keep hi (by omega) (by omega) h.1.up⟩
