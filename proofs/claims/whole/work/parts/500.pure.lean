/-! pure facts -/
theorem pu_ck {R : Type} {j n : Nat} {k : Option R} (h : j < n) (hn : n < 2 ^ 31) : ck (nI j) n k = k := ck_in (vp_in_nI h hn)
theorem pu_lit (n : Nat) : (OfNat.ofNat n : Int32) = nI n := rfl
theorem p_behind {film depth : Nat → Int32} {c k j : Nat} (hc : c < 80) (hd : depth c = nI k) (hk : k ≤ 30) (hj : j < k) : f_X2_behind film depth (nI c) (nI j) = some (film (30 * c + k - 1 - j)) := by
  have e0 : (nI c).toNatClampNeg = c := nI_clamp (by omega)
  have e1 : (30 : Int32) * nI c + nI k - 1 - nI j = nI (30 * c + k - 1 - j) := by
    rw [show (30 : Int32) = nI 30 from rfl, show (1 : Int32) = nI 1 from rfl, pk_mul, nI_add, pk_sub (by omega), pk_sub (by omega)]
  rw [f_X2_behind, if_neg (nI_pos (by omega)), pu_ck hc (by omega), e0, hd, if_pos (nI_lt hj (by omega)), pu_ck hc (by omega), e1, pu_ck (by omega) (by omega), nI_clamp (by omega)]
theorem p_behind0 {film depth : Nat → Int32} {c k : Nat} {o : Int32} (hc : c < 80) (hd : depth c = nI k) (ho : o < 0 ∨ nI k ≤ o) : f_X2_behind film depth (nI c) o = some 0 := by
  have e0 : (nI c).toNatClampNeg = c := nI_clamp (by omega)
  rw [f_X2_behind]
  by_cases h : o < 0
  · rw [if_pos h]
  · rw [if_neg h, pu_ck hc (by omega), e0, hd, if_neg]
    intro h2
    rcases ho with h3 | h3
    · exact h h3
    · exact absurd h2 (by rw [Int32.not_lt]; exact h3)
