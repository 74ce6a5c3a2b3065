/-! pure facts -/
theorem pu_ck {R : Type} {j n : Nat} {k : Option R} (h : j < n) (hn : n < 2 ^ 31) : ck (nI j) n k = k := ck_in (vp_in_nI h hn)
theorem pu_lit (n : Nat) : (OfNat.ofNat n : Int32) = nI n := rfl
theorem p_behind {film depth : Nat → Int32} {c k j : Nat} (hc : c < 80) (hd : depth c = nI k) (hk : k ≤ 30) (hj : j < k) : f_X2_behind film depth (nI c) (nI j) = some (film (30 * c + k - 1 - j)) := by
  have e0 : (nI c).toNatClampNeg = c := nI_clamp (by omega)
  have e1 : (30 : Int32) * nI c + nI k - 1 - nI j = nI (30 * c + k - 1 - j) := by
    rw [show (30 : Int32) = nI 30 from rfl, show (1 : Int32) = nI 1 from rfl, pk_mul, nI_add, pk_sub (by omega), pk_sub (by omega)]
  rw [f_X2_behind, if_neg (nI_pos (by omega)), pu_ck hc (by omega), e0, hd, if_pos (nI_lt hj (by omega)), pu_ck hc (by omega), e1, pu_ck (by omega) (by omega), nI_clamp (by omega)]
theorem p_behind0 {film depth : Nat → Int32} {c k : Nat} {o : Int32} (hc : c < 80) (hd : depth c = nI k) (ho : o < 0 ∨ nI k ≤ o) : f_X2_behind film depth (nI c) o = some 0 := by
  have e0 : (nI c).toNatClampNeg = c := nI_clamp (by omega)
  rw [f_X2_behind]
  by_cases h : o < 0
  · rw [if_pos h]
  · rw [if_neg h, pu_ck hc (by omega), e0, hd, if_neg]
    intro h2
    rcases ho with h3 | h3
    · exact h h3
    · exact absurd h2 (by rw [Int32.not_lt]; exact h3)
theorem r_filmOf {row : Nat → Int32} {c k j : Nat} (hc : c < 80) (hd : row (2400 + c) = nI k) (hk : k ≤ 30) (hj : j < k) : f_X11_filmOf 2685 row (nI c) (nI j) = some (row (30 * c + k - 1 - j)) := by
  have e0 : (2400 : Int32) + nI c = nI (2400 + c) := by rw [show (2400 : Int32) = nI 2400 from rfl, nI_add]
  have e2 : (nI (2400 + c)).toNatClampNeg = 2400 + c := nI_clamp (by omega)
  have e1 : nI k - 1 - nI j = nI (k - 1 - j) := by
    rw [show (1 : Int32) = nI 1 from rfl, pk_sub (by omega), pk_sub (by omega)]
  have e3 : (0 : Int32) + 30 * nI c + nI (k - 1 - j) = nI (30 * c + k - 1 - j) := by
    rw [show (30 : Int32) = nI 30 from rfl, show (0 : Int32) = nI 0 from rfl, pk_mul, nI_add, nI_add]
    congr 1
    omega
  rw [f_X11_filmOf, e0, pu_ck (by omega) (by omega), if_neg (nI_pos (by omega)), e2, hd, e1, if_pos (nI_pos' (by omega)), e3, pu_ck (by omega) (by omega), nI_clamp (by omega)]
/-- the first place from i on, of m more, where g is d; -1 -/
def pOut (g : Nat → Int32) (d : Int32) : Nat → Nat → Int32
  | 0, _ => -1
  | m + 1, i => if g i = d then nI i else pOut g d m (i + 1)
theorem p_outside_b {film depth : Nat → Int32} {c k : Nat} {d : Int32} (hc : c < 80) (hd : depth c = nI k) (hk : k ≤ 30) : ∀ (m i n : Nat), i + m = k → m < n → f_X2_outsideOf_b2 film depth n (nI c) d (nI i) = some (pOut (fun j => film (30 * c + k - 1 - j)) d m i) := by
  have e0 : (nI c).toNatClampNeg = c := nI_clamp (by omega)
  intro m
  induction m with
  | zero =>
    intro i n hi hn
    obtain ⟨n, rfl⟩ : ∃ q, n = q + 1 := ⟨n - 1, by omega⟩
    rw [f_X2_outsideOf_b2, pu_ck hc (by omega), e0, hd, if_pos (nI_le (by omega) (by omega)), pOut]
  | succ m ih =>
    intro i n hi hn
    obtain ⟨n, rfl⟩ : ∃ q, n = q + 1 := ⟨n - 1, by omega⟩
    rw [f_X2_outsideOf_b2, pu_ck hc (by omega), e0, hd, if_neg (nI_ge (by omega) (by omega)), p_behind hc hd hk (by omega), Option.bind_some, pOut]
    by_cases h : film (30 * c + k - 1 - i) = d
    · rw [if_pos h, if_pos h]
    · rw [if_neg h, if_neg h, nI_1]
      exact ih (i + 1) n (by omega) (by omega)
theorem p_outside {film depth : Nat → Int32} {c k : Nat} {d : Int32} (hc : c < 80) (hd : depth c = nI k) (hk : k ≤ 30) : f_X2_outsideOf film depth (nI c) d = some (pOut (fun j => film (30 * c + k - 1 - j)) d k 0) :=
  p_outside_b hc hd hk k 0 4000 (by omega) (by omega)
theorem r_outside_b {row : Nat → Int32} {c k : Nat} {d : Int32} (hc : c < 80) (hd : row (2400 + c) = nI k) (hk : k ≤ 30) : ∀ (m i n : Nat), i + m = k → m < n → f_X11_outsideOf_b2 2685 row n (nI c) d (nI i) = some (pOut (fun j => row (30 * c + k - 1 - j)) d m i) := by
  have e0 : (2400 : Int32) + nI c = nI (2400 + c) := by rw [show (2400 : Int32) = nI 2400 from rfl, nI_add]
  have e2 : (nI (2400 + c)).toNatClampNeg = 2400 + c := nI_clamp (by omega)
  intro m
  induction m with
  | zero =>
    intro i n hi hn
    obtain ⟨n, rfl⟩ : ∃ q, n = q + 1 := ⟨n - 1, by omega⟩
    rw [f_X11_outsideOf_b2, e0, pu_ck (by omega) (by omega), e2, hd, if_pos (nI_le (by omega) (by omega)), pOut]
  | succ m ih =>
    intro i n hi hn
    obtain ⟨n, rfl⟩ : ∃ q, n = q + 1 := ⟨n - 1, by omega⟩
    rw [f_X11_outsideOf_b2, e0, pu_ck (by omega) (by omega), e2, hd, if_neg (nI_ge (by omega) (by omega)), r_filmOf hc hd hk (by omega), Option.bind_some, pOut]
    by_cases h : row (30 * c + k - 1 - i) = d
    · rw [if_pos h, if_pos h]
    · rw [if_neg h, if_neg h, nI_1]
      exact ih (i + 1) n (by omega) (by omega)
theorem r_outside {row : Nat → Int32} {c k : Nat} {d : Int32} (hc : c < 80) (hd : row (2400 + c) = nI k) (hk : k ≤ 30) : f_X11_outsideOf 2685 row (nI c) d = some (pOut (fun j => row (30 * c + k - 1 - j)) d k 0) :=
  r_outside_b hc hd hk k 0 4000 (by omega) (by omega)
