/-! game -/
def xF (g : Nat → Nat) : Nat → Nat → Nat → Nat
  | 0, _, acc => acc
  | m + 1, i, acc => xF g m (i + 1) (acc ^^^ g i)
def mvL (k n o : Nat) : Nat → Nat → Bool
  | 0, _ => false
  | m + 1, t => ((n - t) % (k + 1) == o) || mvL k n o m (t + 1)
theorem mvL_iff (k n o : Nat) : ∀ m t, mvL k n o m t = true ↔ ∃ j, t ≤ j ∧ j < t + m ∧ (n - j) % (k + 1) = o := by
  intro m
  induction m with
  | zero =>
    intro i
    simp only [mvL, Bool.false_eq_true, false_iff]
    rintro ⟨j, h1, h2, -⟩
    omega
  | succ m ih =>
    intro i
    rw [mvL, Bool.or_eq_true, ih, beq_iff_eq]
    constructor
    · rintro (h | ⟨j, h1, h2, h3⟩)
      · exact ⟨i, by omega, by omega, h⟩
      · exact ⟨j, by omega, by omega, h3⟩
    · rintro ⟨j, h1, h2, h3⟩
      by_cases h : j = i
      · subst h
        exact .inl h3
      · exact .inr ⟨j, by omega, by omega, h3⟩
theorem or_or (a b : Nat) : (a ||| b) ||| b = a ||| b := by rw [Nat.or_assoc, Nat.or_self]
theorem p_game3 {de : Nat → Int32} {k49 : Int32 → Int32 → Int32 → Int32 → Int32 → Option Int32} {p k n o i : Nat} {al : Int32} (hk : k ≤ 30) (hn : n ≤ 30) (ho : o < 2 ^ 31) (hi : i < 16) : ∀ (m t q acc : Nat), 1 ≤ t → t + m = min k n + 1 → m < q → f_X1_winningCells_b84 de k49 q (nI p) (nI k) al (nI acc) (nI i) (nI n) (nI o) (nI t) = k49 (nI p) (nI k) al (nI (if mvL k n o m t = true then acc ||| 2 ^ i else acc)) (nI (i + 1)) := by
  have hcd : ∀ {R : Type} (z : Option R), cd (nI (k + 1)) z = z := fun z => if_neg (nI_ne0 (by omega) (by omega))
  intro m
  induction m with
  | zero =>
    intro t q acc h1 h2 h3
    obtain ⟨q, rfl⟩ : ∃ r, q = r + 1 := ⟨q - 1, by omega⟩
    rw [f_X1_winningCells_b84, f_X1_winningCells_b126, nI_1, mvL, if_neg (show ¬ (false = true) by decide)]
    by_cases h4 : k < t
    · rw [if_pos (nI_lt h4 (by omega))]
    · rw [if_neg (nI_nlt (by omega) (by omega)), if_pos (nI_lt (by omega) (by omega))]
  | succ m ih =>
    intro t q acc h1 h2 h3
    obtain ⟨q, rfl⟩ : ∃ r, q = r + 1 := ⟨q - 1, by omega⟩
    have hmod : (n - t) % (k + 1) < k + 1 := Nat.mod_lt _ (by omega)
    rw [f_X1_winningCells_b84, if_neg (nI_nlt (by omega) (by omega)), if_neg (nI_nlt (by omega) (by omega)), nI_1, hcd, pk_sub (by omega), pk_rem (by omega) (by omega) (by omega), f_X1_winningCells_b120, f_X1_winningCells_b120, nI_1, mvL]
    by_cases h4 : (n - t) % (k + 1) = o
    · rw [if_pos (by rw [h4]), pl1, pl31, pn_shl (by omega), pz_or, ih (t + 1) q _ (by omega) (by omega) (by omega), beq_iff_eq.mpr h4, Bool.true_or, if_pos (show true = true from rfl), or_or]
      by_cases h5 : mvL k n o m (t + 1) = true
      · rw [if_pos h5]
      · rw [if_neg h5]
    · rw [if_neg (by rw [nI_eq (by omega) (by omega)]; exact h4), ih (t + 1) q _ (by omega) (by omega) (by omega), beq_eq_false_iff_ne.mpr h4, Bool.false_or]
theorem r_game3 {to row : Nat → Int32} {k112 : Int32 → (Nat → Int32) → Int32 → Int32 → Int32 → Int32 → Int32 → Int32 → Option (Int32 × Int32 × (Nat → Int32))} {v : Nat → Int32} {p k n o i : Nat} {al x3 : Int32} (hk : k ≤ 30) (hn : n ≤ 30) (ho : o < 2 ^ 31) (hi : i < 16) : ∀ (m t q acc : Nat), 1 ≤ t → t + m = min k n + 1 → m < q → f_X11_game_b151 to row k112 q 0 v (nI p) (nI k) x3 al (nI acc) (nI i) (nI n) (nI o) (nI t) = k112 0 v (nI p) (nI k) x3 al (nI (if mvL k n o m t = true then acc ||| 2 ^ i else acc)) (nI (i + 1)) := by
  have hcd : ∀ {R : Type} (z : Option R), cd (nI (k + 1)) z = z := fun z => if_neg (nI_ne0 (by omega) (by omega))
  intro m
  induction m with
  | zero =>
    intro t q acc h1 h2 h3
    obtain ⟨q, rfl⟩ : ∃ r, q = r + 1 := ⟨q - 1, by omega⟩
    rw [f_X11_game_b151, f_X11_game_b197, nI_1, mvL, if_neg (show ¬ (false = true) by decide)]
    by_cases h4 : k < t
    · rw [if_pos (nI_lt h4 (by omega))]
    · rw [if_neg (nI_nlt (by omega) (by omega)), if_pos (nI_lt (by omega) (by omega))]
  | succ m ih =>
    intro t q acc h1 h2 h3
    obtain ⟨q, rfl⟩ : ∃ r, q = r + 1 := ⟨q - 1, by omega⟩
    have hmod : (n - t) % (k + 1) < k + 1 := Nat.mod_lt _ (by omega)
    have h0 : nI acc ||| (0 : Int32) = nI acc := by rw [pl0, pz_or, Nat.or_zero]
    rw [f_X11_game_b151, if_neg (nI_nlt (by omega) (by omega)), if_neg (nI_nlt (by omega) (by omega)), nI_1, hcd, pk_sub (by omega), pk_rem (by omega) (by omega) (by omega), f_X11_game_b188, f_X11_game_b188, h0, nI_1, mvL]
    by_cases h4 : (n - t) % (k + 1) = o
    · rw [if_pos (by rw [h4]), pl1, pl31, pn_shl (by omega), pz_or, ih (t + 1) q _ (by omega) (by omega) (by omega), beq_iff_eq.mpr h4, Bool.true_or, if_pos (show true = true from rfl), or_or]
      by_cases h5 : mvL k n o m (t + 1) = true
      · rw [if_pos h5]
      · rw [if_neg h5]
    · rw [if_neg (by rw [nI_eq (by omega) (by omega)]; exact h4), ih (t + 1) q _ (by omega) (by omega) (by omega), beq_eq_false_iff_ne.mpr h4, Bool.false_or]
/-- from place i a move wins, all heaps being al -/
def mvB (dp : Nat → Nat) (p k al i : Nat) : Bool := mvL k (dp (16 * p + i)) (al ^^^ dp (16 * p + i) % (k + 1)) (min k (dp (16 * p + i))) 1
theorem xlt {a b : Nat} (ha : a < 32) (hb : b < 32) : a ^^^ b < 32 := Nat.xor_lt_two_pow (n := 5) ha hb
theorem p_game2 {de : Nat → Int32} {dp : Nat → Nat} {p k al : Nat} (hp : p < 5) (hk : k ≤ 30) (hal : al < 32) (hd : ∀ c, c < 80 → de c = nI (dp c) ∧ dp c ≤ 30) : ∀ (m i q acc : Nat), i + m = 16 → m < q → f_X1_winningCells_b49 de q (nI p) (nI k) (nI al) (nI acc) (nI i) = some (nI (bF (mvB dp p k al) m i acc)) := by
  have hcd : ∀ {R : Type} (z : Option R), cd (nI (k + 1)) z = z := fun z => if_neg (nI_ne0 (by omega) (by omega))
  intro m
  induction m with
  | zero =>
    intro i q acc hi hq
    obtain ⟨q, rfl⟩ : ∃ r, q = r + 1 := ⟨q - 1, by omega⟩
    rw [f_X1_winningCells_b49, pl16, if_pos (nI_le (by omega) (by omega)), bF]
  | succ m ih =>
    intro i q acc hi hq
    obtain ⟨q, rfl⟩ : ∃ r, q = r + 1 := ⟨q - 1, by omega⟩
    obtain ⟨h1, h2⟩ := hd (16 * p + i) (by omega)
    have hmod : dp (16 * p + i) % (k + 1) < k + 1 := Nat.mod_lt _ (by omega)
    have hx := xlt (a := al) (b := dp (16 * p + i) % (k + 1)) hal (by omega)
    rw [f_X1_winningCells_b49, pl16, if_neg (nI_ge (by omega) (by omega)), pk_mul, nI_add, pu_ck (by omega) (by omega), nI_clamp (by omega), h1, nI_1, hcd, pk_rem (by omega) (by omega) (by omega), pz_xor, pl1, p_game3 hk h2 (by omega) (by omega) (min k (dp (16 * p + i))) 1 4000 acc (by omega) (by omega) (by omega), bF]
    exact ih (i + 1) q _ (by omega) (by omega)
theorem r_game2 {to row v : Nat → Int32} {dp : Nat → Nat} {p k al : Nat} {x3 : Int32} (hp : p < 5) (hk : k ≤ 30) (hal : al < 32) (hd : ∀ c, c < 80 → row (2400 + c) = nI (dp c) ∧ dp c ≤ 30) : ∀ (m i q acc : Nat), i + m = 16 → m < q → f_X11_game_b112 to row q 0 v (nI p) (nI k) x3 (nI al) (nI acc) (nI i) = some (if x3 = 0 then (if nI al = 0 then 0 else 1) else nI (bF (mvB dp p k al) m i acc), 0, v) := by
  have hcd : ∀ {R : Type} (z : Option R), cd (nI (k + 1)) z = z := fun z => if_neg (nI_ne0 (by omega) (by omega))
  intro m
  induction m with
  | zero =>
    intro i q acc hi hq
    obtain ⟨q, rfl⟩ : ∃ r, q = r + 1 := ⟨q - 1, by omega⟩
    rw [f_X11_game_b112, pl16, if_pos (nI_le (by omega) (by omega)), bF]
    by_cases h3 : x3 = 0
    · rw [if_pos h3, if_pos h3]
      by_cases h4 : nI al = 0
      · rw [if_pos h4, if_pos h4]
      · rw [if_neg h4, if_neg h4]
    · rw [if_neg h3, if_neg h3]
  | succ m ih =>
    intro i q acc hi hq
    obtain ⟨q, rfl⟩ : ∃ r, q = r + 1 := ⟨q - 1, by omega⟩
    obtain ⟨h1, h2⟩ := hd (16 * p + i) (by omega)
    have hmod : dp (16 * p + i) % (k + 1) < k + 1 := Nat.mod_lt _ (by omega)
    have hx := xlt (a := al) (b := dp (16 * p + i) % (k + 1)) hal (by omega)
    rw [f_X11_game_b112, pl16, if_neg (nI_ge (by omega) (by omega)), pk_mul, pl2400, nI_add, nI_add, pu_ck (by omega) (by omega), nI_clamp (by omega), Nat.add_assoc 2400, h1, nI_1, hcd, pk_rem (by omega) (by omega) (by omega), pz_xor, pl1, r_game3 hk h2 (by omega) (by omega) (min k (dp (16 * p + i))) 1 4000 acc (by omega) (by omega) (by omega), bF]
    exact ih (i + 1) q _ (by omega) (by omega)
theorem p_game1 {de : Nat → Int32} {dp : Nat → Nat} {p k : Nat} (hp : p < 5) (hk : k ≤ 30) (hd : ∀ c, c < 80 → de c = nI (dp c) ∧ dp c ≤ 30) : ∀ (m i q acc : Nat), i + m = 16 → m < q → acc < 32 → f_X1_winningCells_b9 de q (nI p) (nI k) (nI acc) (nI (16 * p + i)) = some (nI (bF (mvB dp p k (xF (fun i => dp (16 * p + i) % (k + 1)) m i acc)) 16 0 0)) := by
  have hcd : ∀ {R : Type} (z : Option R), cd (nI (k + 1)) z = z := fun z => if_neg (nI_ne0 (by omega) (by omega))
  intro m
  induction m with
  | zero =>
    intro i q acc hi hq ha
    obtain ⟨q, rfl⟩ : ∃ r, q = r + 1 := ⟨q - 1, by omega⟩
    rw [f_X1_winningCells_b9, pl16, pk_mul, nI_add, if_pos (nI_le (by omega) (by omega)), xF, pl0]
    exact p_game2 hp hk ha hd 16 0 4000 0 (by omega) (by omega)
  | succ m ih =>
    intro i q acc hi hq ha
    obtain ⟨q, rfl⟩ : ∃ r, q = r + 1 := ⟨q - 1, by omega⟩
    obtain ⟨h1, h2⟩ := hd (16 * p + i) (by omega)
    have hmod : dp (16 * p + i) % (k + 1) < k + 1 := Nat.mod_lt _ (by omega)
    rw [f_X1_winningCells_b9, pl16, pk_mul, nI_add, if_neg (nI_ge (by omega) (by omega)), pu_ck (by omega) (by omega), nI_clamp (by omega), h1, nI_1, hcd, pk_rem (by omega) (by omega) (by omega), pz_xor, nI_1, xF]
    exact ih (i + 1) q _ (by omega) (by omega) (xlt ha (by omega))
theorem r_game1 {to row v : Nat → Int32} {dp : Nat → Nat} {p k : Nat} {x3 : Int32} (hp : p < 5) (hk : k ≤ 30) (hd : ∀ c, c < 80 → row (2400 + c) = nI (dp c) ∧ dp c ≤ 30) : ∀ (m i q acc : Nat), i + m = 16 → m < q → acc < 32 → f_X11_game_b71 to row q 0 v (nI p) (nI k) x3 (nI acc) (nI 0) (nI i) = some (if x3 = 0 then (if nI (xF (fun i => dp (16 * p + i) % (k + 1)) m i acc) = 0 then 0 else 1) else nI (bF (mvB dp p k (xF (fun i => dp (16 * p + i) % (k + 1)) m i acc)) 16 0 0), 0, v) := by
  have hcd : ∀ {R : Type} (z : Option R), cd (nI (k + 1)) z = z := fun z => if_neg (nI_ne0 (by omega) (by omega))
  intro m
  induction m with
  | zero =>
    intro i q acc hi hq ha
    obtain ⟨q, rfl⟩ : ∃ r, q = r + 1 := ⟨q - 1, by omega⟩
    have e := r_game2 (to := to) (row := row) (v := v) (x3 := x3) hp hk ha hd 16 0 4000 0 (by omega) (by omega)
    rw [← pl0] at e
    rw [f_X11_game_b71, pl16, if_pos (nI_le (by omega) (by omega)), xF, ← pl0]
    exact e
  | succ m ih =>
    intro i q acc hi hq ha
    obtain ⟨q, rfl⟩ : ∃ r, q = r + 1 := ⟨q - 1, by omega⟩
    obtain ⟨h1, h2⟩ := hd (16 * p + i) (by omega)
    have hmod : dp (16 * p + i) % (k + 1) < k + 1 := Nat.mod_lt _ (by omega)
    rw [f_X11_game_b71, pl16, if_neg (nI_ge (by omega) (by omega)), pk_mul, pl2400, nI_add, nI_add, pu_ck (by omega) (by omega), nI_clamp (by omega), Nat.add_assoc 2400, h1, nI_1, hcd, pk_rem (by omega) (by omega) (by omega), pz_xor, nI_1, xF]
    exact ih (i + 1) q _ (by omega) (by omega) (xlt ha (by omega))
theorem xF_lt (g : Nat → Nat) : ∀ m i acc, (∀ j, i ≤ j → j < i + m → g j < 32) → acc < 32 → xF g m i acc < 32 := by
  intro m
  induction m with
  | zero =>
    intro i acc h1 h2
    exact h2
  | succ m ih =>
    intro i acc h1 h2
    rw [xF]
    exact ih (i + 1) _ (fun j h3 h4 => h1 j (by omega) (by omega)) (xlt h2 (h1 i (by omega) (by omega)))
theorem xF_bit (g : Nat → Nat) (b : Nat) : ∀ m i acc, (xF g m i acc).testBit b = true → acc.testBit b = true ∨ ∃ j, i ≤ j ∧ j < i + m ∧ (g j).testBit b = true := by
  intro m
  induction m with
  | zero =>
    intro i acc h
    exact .inl h
  | succ m ih =>
    intro i acc h
    rw [xF] at h
    rcases ih (i + 1) _ h with h1 | ⟨j, h1, h2, h3⟩
    · rw [Nat.testBit_xor] at h1
      cases h2 : acc.testBit b with
      | true => exact .inl rfl
      | false =>
        rw [h2, Bool.false_xor] at h1
        exact .inr ⟨i, by omega, by omega, h1⟩
    · exact .inr ⟨j, by omega, by omega, h3⟩
theorem topBit : ∀ (n a : Nat), a < 2 ^ n → a ≠ 0 → ∃ b, a.testBit b = true ∧ ∀ j, b < j → a.testBit j = false := by
  intro n
  induction n with
  | zero =>
    intro a h1 h2
    omega
  | succ n ih =>
    intro a h1 h2
    by_cases h : a.testBit n = true
    · exact ⟨n, h, fun j hj => Nat.testBit_lt_two_pow (Nat.lt_of_lt_of_le h1 (Nat.pow_le_pow_right (by omega) (by omega)))⟩
    · refine ih a ?_ h2
      apply Nat.lt_pow_two_of_testBit
      intro i hi
      by_cases e : i = n
      · subst e
        exact Bool.eq_false_iff.mpr h
      · exact Nat.testBit_lt_two_pow (Nat.lt_of_lt_of_le h1 (Nat.pow_le_pow_right (by omega) (by omega)))
theorem lt_tb {x y : Nat} (b : Nat) (hx : x.testBit b = false) (hy : y.testBit b = true) (h : ∀ j, b < j → x.testBit j = y.testBit j) : x < y := by
  have h1 : x / 2 ^ (b + 1) = y / 2 ^ (b + 1) := by
    apply Nat.eq_of_testBit_eq
    intro i
    rw [Nat.testBit_div_two_pow, Nat.testBit_div_two_pow]
    exact h _ (by omega)
  rw [Nat.pow_succ, ← Nat.div_div_eq_div_mul, ← Nat.div_div_eq_div_mul] at h1
  rw [Nat.testBit_eq_decide_div_mod_eq, decide_eq_false_iff_not] at hx
  rw [Nat.testBit_eq_decide_div_mod_eq, decide_eq_true_iff] at hy
  apply Classical.byContradiction
  intro h2
  have := Nat.div_le_div_right (c := 2 ^ b) (show y ≤ x by omega)
  omega
theorem nim {dp : Nat → Nat} {p k : Nat} (hk1 : 1 ≤ k) (hk : k ≤ 30) : bF (mvB dp p k (xF (fun i => dp (16 * p + i) % (k + 1)) 16 0 0)) 16 0 0 = 0 ↔ xF (fun i => dp (16 * p + i) % (k + 1)) 16 0 0 = 0 := by
  have hlt := xF_lt (fun i => dp (16 * p + i) % (k + 1)) 16 0 0 (fun j _ _ => by
    have : dp (16 * p + j) % (k + 1) < k + 1 := Nat.mod_lt _ (by omega)
    show dp (16 * p + j) % (k + 1) < 32
    omega) (by omega)
  generalize hal : xF (fun i => dp (16 * p + i) % (k + 1)) 16 0 0 = al at hlt ⊢
  constructor
  · intro h
    apply Classical.byContradiction
    intro h0
    obtain ⟨b, hb1, hb2⟩ := topBit 5 al (by omega) h0
    rcases xF_bit (fun i => dp (16 * p + i) % (k + 1)) b 16 0 0 (by rw [hal]; exact hb1) with h1 | ⟨j, -, h2, h3⟩
    · rw [Nat.zero_testBit] at h1
      cases h1
    · have h3 : (dp (16 * p + j) % (k + 1)).testBit b = true := h3
      generalize hg : dp (16 * p + j) % (k + 1) = g at h3
      have hgk : g < k + 1 := by rw [← hg]; exact Nat.mod_lt _ (by omega)
      have hgn : g ≤ dp (16 * p + j) := by rw [← hg]; exact Nat.mod_le _ _
      have hlt2 : al ^^^ g < g := by
        apply lt_tb b
        · rw [Nat.testBit_xor, hb1, h3]
          rfl
        · exact h3
        · intro i hi
          rw [Nat.testBit_xor, hb2 i hi, Bool.false_xor]
      have hm : mvB dp p k al j = true := by
        rw [mvB, mvL_iff, hg]
        refine ⟨g - (al ^^^ g), by omega, by omega, ?_⟩
        have e1 : dp (16 * p + j) = (k + 1) * (dp (16 * p + j) / (k + 1)) + g := by
          rw [← hg]
          exact (Nat.div_add_mod _ _).symm
        rw [show dp (16 * p + j) - (g - (al ^^^ g)) = (al ^^^ g) + (k + 1) * (dp (16 * p + j) / (k + 1)) by omega, Nat.add_mul_mod_self_left]
        exact Nat.mod_eq_of_lt (by omega)
      have h4 := bF_tb (mvB dp p k al) j 16 0 0
      rw [h, Nat.zero_testBit, hm] at h4
      simp at h4
      omega
  · intro h
    rw [h]
    apply Nat.eq_of_testBit_eq
    intro j
    rw [bF_tb, Nat.zero_testBit, Bool.false_or]
    have hm : mvB dp p k 0 j = false := by
      rw [Bool.eq_false_iff]
      intro h1
      rw [mvB, mvL_iff] at h1
      obtain ⟨t, h2, h3, h4⟩ := h1
      rw [Nat.zero_xor] at h4
      have h5 : t ≤ dp (16 * p + j) := by omega
      have h6 : t ≤ k := by omega
      have e1 := Nat.div_add_mod (dp (16 * p + j)) (k + 1)
      have e2 := Nat.div_add_mod (dp (16 * p + j) - t) (k + 1)
      rw [h4] at e2
      have e3 : (k + 1) * (dp (16 * p + j) / (k + 1)) = (k + 1) * ((dp (16 * p + j) - t) / (k + 1)) + t := by omega
      have e4 := congrArg (fun z => z % (k + 1)) e3
      simp only [Nat.mul_mod_right, Nat.mul_add_mod] at e4
      rw [Nat.mod_eq_of_lt (by omega)] at e4
      omega
    rw [hm, Bool.and_false]
theorem a_game {C : CS} {R : RS} (hc : PzC C R) (x1 x2 x3 : Int32) :
    (∃ r, fC_game C x1 x2 x3 = some (0, r, C.v15) ∧ fR_game R x1 x2 x3 = some (r, 0, R.v10)) ∨
    (fC_game C x1 x2 x3 = some (2, 0, upd C.v15 1 (C.v15 1 + 1)) ∧ fR_game R x1 x2 x3 = some (0, 1, upd R.v10 1 (R.v10 1 + 1))) ∨
    (fC_game C x1 x2 x3 = some (1, 0, upd C.v15 2 (C.v15 2 + 1)) ∧ fR_game R x1 x2 x3 = some (0, 2, upd R.v10 2 (R.v10 2 + 1))) := by
  obtain ⟨np, no, hd, W, H, hS, ⟨dp, fd, dy, hG⟩, -⟩ := hc
  have h30 := hS.2.2.1.2
  rcases pz_pane hS C.v15 x1 with ⟨h1, h2⟩ | ⟨p, hp, hp5, rfl, h1, h2⟩
  · exact .inr (.inl ⟨by simp -implicitDefEqProofs only [Option.bind_some, pz10, if_true, if_false, eq_self, ↓reduceIte, r_bad0, r_A1, r_A2, r_B1, r_B2, r_B3, r_C1, fC_game, f_X10_game, h1]; rfl, by simp -implicitDefEqProofs only [Option.bind_some, pz10, if_true, if_false, eq_self, ↓reduceIte, r_bad0, r_A1, r_A2, r_B1, r_B2, r_B3, r_C1, fR_game, f_X11_game, h2, f_X11_game_b19]⟩)
  · rcases pz_rng x2 1 30 (by omega) (by omega) with hb | ⟨k, hk1, hk2, rfl⟩
    · have hr := r_inNo hb
      rw [← pl1, ← pl30] at hb hr
      refine .inr (.inr ⟨?_, by simp -implicitDefEqProofs only [Option.bind_some, pz10, if_true, if_false, eq_self, ↓reduceIte, r_bad0, r_A1, r_A2, r_B1, r_B2, r_B3, r_C1, fR_game, f_X11_game, h2, f_X11_game_b19, f_X11_game_b47, f_X11_game_b52, hr]⟩)
      by_cases h0 : x2 < 1
      · simp -implicitDefEqProofs only [Option.bind_some, pz10, if_true, if_false, eq_self, ↓reduceIte, r_bad0, r_A1, r_A2, r_B1, r_B2, r_B3, r_C1, fC_game, f_X10_game, h1, h0, f_X10_game_b21, f_X10_game_b22, p_need0]
        rfl
      · rcases hb with hb | hb
        · exact absurd hb h0
        · simp -implicitDefEqProofs only [Option.bind_some, pz10, if_true, if_false, eq_self, ↓reduceIte, r_bad0, r_A1, r_A2, r_B1, r_B2, r_B3, r_C1, fC_game, f_X10_game, h1, h0, hb, f_X10_game_b21, f_X10_game_b22, p_need0]
          rfl
    · have hr := r_inOk hk1 hk2 (by omega)
      rw [← pl1, ← pl30] at hr
      have hl : ¬ nI k < 1 := nI_nlt (b := 1) hk1 (by omega)
      have hl2 : ¬ (30 : Int32) < nI k := nI_nlt (a := 30) hk2 (by omega)
      rcases pz_what C.v15 x3 1 (by omega) with ⟨h3, h4⟩ | ⟨a, ha, rfl, h3, h4⟩
      · rw [← pl1] at h3 h4
        exact .inr (.inr ⟨by simp -implicitDefEqProofs only [Option.bind_some, pz10, if_true, if_false, eq_self, ↓reduceIte, r_bad0, r_A1, r_A2, r_B1, r_B2, r_B3, r_C1, fC_game, f_X10_game, h1, hl, hl2, f_X10_game_b22, p_need1, h3]; rfl, by simp -implicitDefEqProofs only [Option.bind_some, pz10, if_true, if_false, eq_self, ↓reduceIte, r_bad0, r_A1, r_A2, r_B1, r_B2, r_B3, r_C1, fR_game, f_X11_game, h2, f_X11_game_b19, f_X11_game_b47, f_X11_game_b52, hr, h4]⟩)
      · rw [← pl1] at h3 h4
        have e1 := p_game1 (de := C.n.2.2.2.2.2.2.1) (dp := dp) hp5 hk2 (fun c hc => ⟨hG.dep hc, Nat.le_trans (hG.le hc) h30⟩) 16 0 4000 0 (by omega) (by omega) (by omega)
        have e2 := r_game1 (to := R.v12) (v := R.v10) (row := R.v29) (dp := dp) (x3 := nI a) hp5 hk2 (fun c hc => ⟨hG.many hc, Nat.le_trans (hG.le hc) h30⟩) 16 0 4000 0 (by omega) (by omega) (by omega)
        rw [← pl0] at e1 e2
        have hn := nim (dp := dp) (p := p) hk1 hk2
        have hlt := bF_lt (mvB dp p k (xF (fun i => dp (16 * p + i) % (k + 1)) 16 0 0)) 16 16 0 0 (by omega) (by omega)
        have hlt2 := xF_lt (fun i => dp (16 * p + i) % (k + 1)) 16 0 0 (fun j _ _ => by
          have : dp (16 * p + j) % (k + 1) < k + 1 := Nat.mod_lt _ (by omega)
          show dp (16 * p + j) % (k + 1) < 32
          omega) (by omega)
        have e0 : (16 : Int32) * nI p = nI (16 * p + 0) := by rw [pl16, pk_mul, Nat.add_zero]
        refine .inl ⟨_, ?_, by simp -implicitDefEqProofs only [Option.bind_some, pz10, if_true, if_false, eq_self, ↓reduceIte, r_bad0, r_A1, r_A2, r_B1, r_B2, r_B3, r_C1, fR_game, f_X11_game, h2, f_X11_game_b19, f_X11_game_b52, hr, h4]; exact e2⟩
        simp -implicitDefEqProofs only [Option.bind_some, pz10, if_true, if_false, eq_self, ↓reduceIte, r_bad0, r_A1, r_A2, r_B1, r_B2, r_B3, r_C1, fC_game, f_X10_game, h1, hl, hl2, f_X10_game_b22, p_need1, h3, f_X1_winningCells, e0, e1]
        have ha2 : a = 0 ∨ a = 1 := by omega
        rcases ha2 with rfl | rfl
        · rw [if_neg (by decide), if_pos (show nI 0 = 0 from rfl)]
          by_cases h0 : xF (fun i => dp (16 * p + i) % (k + 1)) 16 0 0 = 0
          · rw [hn.mpr h0, h0]
            rfl
          · rw [if_neg (nI_ne0 (by have := mt hn.mp h0; omega) (by omega)), if_neg (nI_ne0 (by omega) (by omega))]
        · rw [if_pos (show nI 1 = 1 from rfl), if_neg (by decide)]
theorem q_game {L i : Nat} {C : CS} {R : RS} {cells slots : Nat} (h : PzInv L i C R cells slots) (hi : i + 7 ≤ L) (x1 x2 x3 : Int32) : pS_game (PzInv L (i + 7)) C R x1 x2 x3 cells slots := by
  rcases a_game h.2.1 x1 x2 x3 with ⟨r, h1, h2⟩ | ⟨h1, h2⟩ | ⟨h1, h2⟩
  · exact ⟨(0, r, C.v15), (r, 0, R.v10), h1, h2, .inl rfl, rfl, fun _ => rfl, pz_fit h (by omega) (by omega), h.keep hi (by omega) (by omega) h.1⟩
  · exact ⟨(2, 0, upd C.v15 1 (C.v15 1 + 1)), (0, 1, upd R.v10 1 (R.v10 1 + 1)), h1, h2, .inr (.inl rfl), rfl, fun _ => rfl, pz_fit h (by omega) (by omega), h.keep hi (by omega) (by omega) h.1.up⟩
  · exact ⟨(1, 0, upd C.v15 2 (C.v15 2 + 1)), (0, 2, upd R.v10 2 (R.v10 2 + 1)), h1, h2, .inr (.inr rfl), rfl, fun _ => rfl, pz_fit h (by omega) (by omega), h.keep hi (by omega) (by omega) h.1.up⟩
